theorem nd_X4_bestMixture : yX4_bestMixture.cls = RX4 ∧ yX4_bestMixture.cls ≠ "java/lang/invoke/MethodHandle" ∧ yX4_bestMixture.cls ≠ "java/lang/invoke/VarHandle" ∧ (parseMethodDescriptor yX4_bestMixture.desc).map (fun d => d.parameters.length) = some 2 := by decide +kernel
set_option maxHeartbeats 8000000 in
set_option maxRecDepth 100000 in
theorem k_X4_bestMixture (l : Launch) (D : va_G) (cI cZ cC cS : ClassId) (sz : Nat) (a0 a1 a3 a5 a10 a11 a12 a13 : Nat) (w0_0 : Value) (w0_2 : Value) (w0_3 : Value) (w0_4 : Value) (w0_5 : Value) (w0_6 : Value) (w1_0 : Value) (w1_2 : Value) (w1_4 : Value) (w1_5 : Value) (w1_6 : Value) (w1_7 : Value) (w1_8 : Value) (w1_9 : Value) (w1_10 : Value) (w1_11 : Value) (f3 : Nat → Int32) (f5 : Nat → Int32) (w10_4 : Value) (w10_5 : Value) (f11 : Nat → Int32) (f12 : Nat → Int32) (f13 : Nat → Int32) (u1 : Int32) (u2 : Int32) (res : Int32 × (Nat → Int32) × (Nat → Int32) × (Nat → Int32)) (hsp : s_X4_bestMixture f3 f5 f11 f12 f13 u1 u2 = some res) : Met l yX4_bestMixture wsX4_bestMixture ({ frames := 4, cells := 0, slots := 0, locals := 102 }) (va_Pc [.ref a0, .int u1, .int u2] (PB D cI cZ cC cS [(a0, .inr (4, [w0_0, .ref a10, w0_2, w0_3, w0_4, w0_5, w0_6])), (a1, .inr (2, [w1_0, .ref a3, w1_2, .ref a5, w1_4, w1_5, w1_6, w1_7, w1_8, w1_9, w1_10, w1_11])), (a3, .inl (cI, 36, .inl f3)), (a5, .inl (cI, 18, .inl f5)), (a10, .inr (0, [.ref a1, .ref a11, .ref a12, .ref a13, w10_4, w10_5])), (a11, .inl (cI, 5, .inl f11)), (a12, .inl (cI, 3, .inl f12)), (a13, .inl (cI, 3, .inl f13))] sz)) (va_Qi (fun r (_ : Unit) => r = res.1) (fun _ t => va_P D vwCl [(a0, .inr (4, [w0_0, .ref a10, w0_2, w0_3, w0_4, w0_5, w0_6])), (a1, .inr (2, [w1_0, .ref a3, w1_2, .ref a5, w1_4, w1_5, w1_6, w1_7, w1_8, w1_9, w1_10, w1_11])), (a3, .inl (cI, 36, .inl f3)), (a5, .inl (cI, 18, .inl f5)), (a10, .inr (0, [.ref a1, .ref a11, .ref a12, .ref a13, w10_4, w10_5])), (a11, .inl (cI, 5, .inl res.2.1)), (a12, .inl (cI, 3, .inl res.2.2.1)), (a13, .inl (cI, 3, .inl res.2.2.2))] t.heap) (va_A [(a0, .inr (4, [w0_0, .ref a10, w0_2, w0_3, w0_4, w0_5, w0_6])), (a1, .inr (2, [w1_0, .ref a3, w1_2, .ref a5, w1_4, w1_5, w1_6, w1_7, w1_8, w1_9, w1_10, w1_11])), (a3, .inl (cI, 36, .inl f3)), (a5, .inl (cI, 18, .inl f5)), (a10, .inr (0, [.ref a1, .ref a11, .ref a12, .ref a13, w10_4, w10_5])), (a11, .inl (cI, 5, .inl f11)), (a12, .inl (cI, 3, .inl f12)), (a13, .inl (cI, 3, .inl f13))] sz)) 0 0 (va_A [(a0, .inr (4, [w0_0, .ref a10, w0_2, w0_3, w0_4, w0_5, w0_6])), (a1, .inr (2, [w1_0, .ref a3, w1_2, .ref a5, w1_4, w1_5, w1_6, w1_7, w1_8, w1_9, w1_10, w1_11])), (a3, .inl (cI, 36, .inl f3)), (a5, .inl (cI, 18, .inl f5)), (a10, .inr (0, [.ref a1, .ref a11, .ref a12, .ref a13, w10_4, w10_5])), (a11, .inl (cI, 5, .inl f11)), (a12, .inl (cI, 3, .inl f12)), (a13, .inl (cI, 3, .inl f13))] sz) := by
  refine Met.ofW (cc := cX4_bestMixture) (maxL := 3) (ret := (some .int)) (by decide) rfl ?_
  intro p e s m args below meth c s₁ B hml hv
  obtain ⟨rfl, hsz, hP, hD0, hKU⟩ := hv
  have hx := B.exec
  have hb := B.bytes
  have hr := B.returns
  have hts := atoms_spec (ws := wsX4_bestMixture) B.pre
  have hown : s.vm.findClass RX4 = some m.cls := findClass_of_methodNamed B.named
  have hlocks := B.notSynchronized
  have hK := hKU.1
  have hf_21 := hts (.fieldLink RX4 21 "ThinnedPots" "advice" "LThinnedPots$Advice;") (by decide +kernel)
  have hi_X4 : ∀ w ∈ u_ws RX4 TX4 7, w ∈ wsX4_bestMixture := by decide +kernel
  subst hsz
  have hD := hD0.self (sz := s.heap.size)
  generalize hAe : va_A [(a0, .inr (4, [w0_0, .ref a10, w0_2, w0_3, w0_4, w0_5, w0_6])), (a1, .inr (2, [w1_0, .ref a3, w1_2, .ref a5, w1_4, w1_5, w1_6, w1_7, w1_8, w1_9, w1_10, w1_11])), (a3, .inl (cI, 36, .inl f3)), (a5, .inl (cI, 18, .inl f5)), (a10, .inr (0, [.ref a1, .ref a11, .ref a12, .ref a13, w10_4, w10_5])), (a11, .inl (cI, 5, .inl f11)), (a12, .inl (cI, 3, .inl f12)), (a13, .inl (cI, 3, .inl f13))] s.heap.size = A at hD ⊢
  have hA : ∀ q : Nat, s.heap.size ≤ q → A q := fun q h => by rw [← hAe]; exact Or.inr h
  have hP : va_P D vwCl [(a0, .inr (4, [w0_0, .ref a10, w0_2, w0_3, w0_4, w0_5, w0_6])), (a1, .inr (2, [w1_0, .ref a3, w1_2, .ref a5, w1_4, w1_5, w1_6, w1_7, w1_8, w1_9, w1_10, w1_11])), (a3, .inl (cI, 36, .inl f3)), (a5, .inl (cI, 18, .inl f5)), (a10, .inr (0, [.ref a1, .ref a11, .ref a12, .ref a13, w10_4, w10_5])), (a11, .inl (cI, 5, .inl f11)), (a12, .inl (cI, 3, .inl f12)), (a13, .inl (cI, 3, .inl f13))] s.heap := hP
  generalize hHe : s.heap = H at hP ⊢
  have hS : va_S A s.heap H [] := by rw [hHe]; exact va_S.rf
  have hl := lv_entry ([.ref a0, .int u1, .int u2]) (n := 3) (Nat.le_of_ble_eq_true rfl)
  rw [lg_entry_eq]
  generalize (lg_sl ([.ref a0, .int u1, .int u2]) ++ List.replicate (3 - (lg_sl ([.ref a0, .int u1, .int u2])).length) Slot.unset).toArray = ls at hl ⊢
  have hl : lv_has ls 3 [(0, .ref a0), (1, .int u1), (2, .int u2)] := hl
  unfold s_X4_bestMixture at hsp
  refine lv_iload_n hx hb dX4_bestMixture_0 rfl (lv_at hl 1 rfl) ?_
  refine lv_bipush (v := 6) hx hb dX4_bestMixture_1 (by decide) ?_
  obtain ⟨r1, hcr1, hsp⟩ := clE hsp
  refine call_z (w1 := []) (ws' := [(a0, .inr (4, [w0_0, .ref a10, w0_2, w0_3, w0_4, w0_5, w0_6])), (a1, .inr (2, [w1_0, .ref a3, w1_2, .ref a5, w1_4, w1_5, w1_6, w1_7, w1_8, w1_9, w1_10, w1_11])), (a3, .inl (cI, 36, .inl f3)), (a5, .inl (cI, 18, .inl f5)), (a10, .inr (0, [.ref a1, .ref a11, .ref a12, .ref a13, w10_4, w10_5])), (a11, .inl (cI, 5, .inl f11)), (a12, .inl (cI, 3, .inl f12)), (a13, .inl (cI, 3, .inl f13))]) (va_runS (As := [.int u1, .int 6]) (rest := []) ⟨hx, hb, hml, hown, hts⟩ (k_X4_isWithin l D cI cZ cC cS H.size u1 6 r1 hcr1) (va_cwS 2 hts gX4_bestMixture_X4_isWithin rfl rfl rfl nd_X4_isWithin.2 ⟨Nat.le_of_ble_eq_true rfl, Nat.le_of_ble_eq_true rfl⟩) (PB.preS hKU hP hD [] rfl rfl) rfl rfl hl.1 rfl (lv_room (Nat.le_of_ble_eq_true rfl)) dX4_bestMixture_3 ⟨Nat.zero_le _, Nat.zero_le _⟩) hS hP hD hA [] rfl rfl (by first | (simp only [wset, List.set_cons_zero, List.set_cons_succ]; done) | rfl) rfl (fun H locs hP hD hS hzr1 => ?_)
  refine lv_if_ne (tgt := 11) hx hb dX4_bestMixture_6 (by decide) (fun c2 => ?_) (fun c2 => ?_)
  · have hsp := itF hsp c2
    refine lv_iload_n hx hb dX4_bestMixture_11 rfl (lv_at hl 2 rfl) ?_
    refine lv_iconst (v := 5) hx hb dX4_bestMixture_12 (by decide) ?_
    obtain ⟨r3, hcr3, hsp⟩ := clE hsp
    refine call_z (w1 := []) (ws' := [(a0, .inr (4, [w0_0, .ref a10, w0_2, w0_3, w0_4, w0_5, w0_6])), (a1, .inr (2, [w1_0, .ref a3, w1_2, .ref a5, w1_4, w1_5, w1_6, w1_7, w1_8, w1_9, w1_10, w1_11])), (a3, .inl (cI, 36, .inl f3)), (a5, .inl (cI, 18, .inl f5)), (a10, .inr (0, [.ref a1, .ref a11, .ref a12, .ref a13, w10_4, w10_5])), (a11, .inl (cI, 5, .inl f11)), (a12, .inl (cI, 3, .inl f12)), (a13, .inl (cI, 3, .inl f13))]) (va_runS (As := [.int u2, .int 5]) (rest := []) ⟨hx, hb, hml, hown, hts⟩ (k_X4_isWithin l D cI cZ cC cS H.size u2 5 r3 hcr3) (va_cwS 2 hts gX4_bestMixture_X4_isWithin rfl rfl rfl nd_X4_isWithin.2 ⟨Nat.le_of_ble_eq_true rfl, Nat.le_of_ble_eq_true rfl⟩) (PB.preS hKU hP hD [] rfl rfl) rfl rfl hl.1 rfl (lv_room (Nat.le_of_ble_eq_true rfl)) dX4_bestMixture_13 ⟨Nat.zero_le _, Nat.zero_le _⟩) hS hP hD hA [] rfl rfl (by first | (simp only [wset, List.set_cons_zero, List.set_cons_succ]; done) | rfl) rfl (fun H locs hP hD hS hzr3 => ?_)
    refine lv_if_ne (tgt := 22) hx hb dX4_bestMixture_16 (by decide) (fun c4 => ?_) (fun c4 => ?_)
    · have hsp := itF hsp c4
      refine lv_aload_n hx hb dX4_bestMixture_22 rfl (lv_at hl 0 rfl) ?_
      refine va_get (D := D) (ci := 4) (v := .ref a10) (C := RX4) (T := TX4) (N := 7) hx hb hts hi_X4 hown hK hP 0 rfl rfl 1 (by decide) hf_21 (fun _ h9 => h9) rfl dX4_bestMixture_23 ?_
      refine lv_iload_n hx hb dX4_bestMixture_26 rfl (lv_at hl 1 rfl) ?_
      refine lv_iload_n hx hb dX4_bestMixture_27 rfl (lv_at hl 2 rfl) ?_
      obtain ⟨r5, hcr5, hsp⟩ := clE hsp
      refine call_i (w1 := [(a10, .inr (0, [.ref a1, .ref a11, .ref a12, .ref a13, w10_4, w10_5])), (a1, .inr (2, [w1_0, .ref a3, w1_2, .ref a5, w1_4, w1_5, w1_6, w1_7, w1_8, w1_9, w1_10, w1_11])), (a3, .inl (cI, 36, .inl f3)), (a5, .inl (cI, 18, .inl f5)), (a11, .inl (cI, 5, .inl r5.2.1)), (a12, .inl (cI, 3, .inl r5.2.2.1)), (a13, .inl (cI, 3, .inl r5.2.2.2))]) (ws' := [(a0, .inr (4, [w0_0, .ref a10, w0_2, w0_3, w0_4, w0_5, w0_6])), (a1, .inr (2, [w1_0, .ref a3, w1_2, .ref a5, w1_4, w1_5, w1_6, w1_7, w1_8, w1_9, w1_10, w1_11])), (a3, .inl (cI, 36, .inl f3)), (a5, .inl (cI, 18, .inl f5)), (a10, .inr (0, [.ref a1, .ref a11, .ref a12, .ref a13, w10_4, w10_5])), (a11, .inl (cI, 5, .inl r5.2.1)), (a12, .inl (cI, 3, .inl r5.2.2.1)), (a13, .inl (cI, 3, .inl r5.2.2.2))]) (va_runV (As := [.int u1, .int u2]) (rest := []) ⟨hx, hb, hml, hown, hts⟩ (k_X0_mixture l D cI cZ cC cS H.size a10 a1 a3 a5 a11 a12 a13 (w10_4) (w10_5) (w1_0) (w1_2) (w1_4) (w1_5) (w1_6) (w1_7) (w1_8) (w1_9) (w1_10) (w1_11) f3 f5 f11 f12 f13 u1 u2 r5 hcr5) (cwV 2 hts gX4_bestMixture_X0_mixture rfl rfl rfl nd_X0_mixture ⟨Nat.le_of_ble_eq_true rfl, Nat.le_of_ble_eq_true rfl⟩) (PB.preV (ci := 0) (q0 := 4) hKU hP hD [4, 1, 2, 3, 5, 6, 7] rfl rfl rfl rfl) rfl rfl hl.1 rfl (lv_room (Nat.le_of_ble_eq_true rfl)) dX4_bestMixture_28 ⟨Nat.zero_le _, Nat.zero_le _⟩) hS hP hD hA [4, 1, 2, 3, 5, 6, 7] rfl rfl (by first | (simp only [wset, List.set_cons_zero, List.set_cons_succ]; done) | rfl) rfl (fun H locs hP hD hS => ?_)
      have hres := Option.some.inj hsp
      subst hres
      exact W.iret (v := r5.1) hx hb hr (fun t ht hW => ⟨⟨r5.1, (), rfl, rfl, P_at ht hP⟩, hS.F ht⟩) hS.2.2 dX4_bestMixture_31
    have hsp := itT hsp c4
    refine lv_bipush (v := (-2)) hx hb dX4_bestMixture_19 (by decide) ?_
    have hres := Option.some.inj hsp
    subst hres
    exact W.iret (v := (-2)) hx hb hr (fun t ht hW => ⟨⟨(-2), (), rfl, rfl, P_at ht hP⟩, hS.F ht⟩) hS.2.2 dX4_bestMixture_21
  have hsp := itT hsp c2
  refine lv_iconst (v := (-1)) hx hb dX4_bestMixture_9 (by decide) ?_
  have hres := Option.some.inj hsp
  subst hres
  exact W.iret (v := (-1)) hx hb hr (fun t ht hW => ⟨⟨(-1), (), rfl, rfl, P_at ht hP⟩, hS.F ht⟩) hS.2.2 dX4_bestMixture_10

theorem nd_X4_bestOrder : yX4_bestOrder.cls = RX4 ∧ yX4_bestOrder.cls ≠ "java/lang/invoke/MethodHandle" ∧ yX4_bestOrder.cls ≠ "java/lang/invoke/VarHandle" ∧ (parseMethodDescriptor yX4_bestOrder.desc).map (fun d => d.parameters.length) = some 1 := by decide +kernel
set_option maxHeartbeats 8000000 in
set_option maxRecDepth 100000 in
theorem k_X4_bestOrder (l : Launch) (D : va_G) (cI cZ cC cS : ClassId) (sz : Nat) (a0 a1 a3 a5 a10 a14 a15 : Nat) (w0_0 : Value) (w0_2 : Value) (w0_3 : Value) (w0_4 : Value) (w0_5 : Value) (w0_6 : Value) (w1_0 : Value) (w1_2 : Value) (w1_4 : Value) (w1_5 : Value) (w1_6 : Value) (w1_7 : Value) (w1_8 : Value) (w1_9 : Value) (w1_10 : Value) (w1_11 : Value) (f3 : Nat → Int32) (f5 : Nat → Int32) (w10_1 : Value) (w10_2 : Value) (w10_3 : Value) (f14 : Nat → Int32) (f15 : Nat → Int32) (u1 : Int32) (res : Int32 × (Nat → Int32) × (Nat → Int32)) (hsp : s_X4_bestOrder f3 f5 f14 f15 u1 = some res) : Met l yX4_bestOrder wsX4_bestOrder ({ frames := 6, cells := 0, slots := 0, locals := 141 }) (va_Pc [.ref a0, .int u1] (PB D cI cZ cC cS [(a0, .inr (4, [w0_0, .ref a10, w0_2, w0_3, w0_4, w0_5, w0_6])), (a1, .inr (2, [w1_0, .ref a3, w1_2, .ref a5, w1_4, w1_5, w1_6, w1_7, w1_8, w1_9, w1_10, w1_11])), (a3, .inl (cI, 36, .inl f3)), (a5, .inl (cI, 18, .inl f5)), (a10, .inr (0, [.ref a1, w10_1, w10_2, w10_3, .ref a14, .ref a15])), (a14, .inl (cI, 6, .inl f14)), (a15, .inl (cI, 6, .inl f15))] sz)) (va_Qi (fun r (_ : Unit) => r = res.1) (fun _ t => va_P D vwCl [(a0, .inr (4, [w0_0, .ref a10, w0_2, w0_3, w0_4, w0_5, w0_6])), (a1, .inr (2, [w1_0, .ref a3, w1_2, .ref a5, w1_4, w1_5, w1_6, w1_7, w1_8, w1_9, w1_10, w1_11])), (a3, .inl (cI, 36, .inl f3)), (a5, .inl (cI, 18, .inl f5)), (a10, .inr (0, [.ref a1, w10_1, w10_2, w10_3, .ref a14, .ref a15])), (a14, .inl (cI, 6, .inl res.2.1)), (a15, .inl (cI, 6, .inl res.2.2))] t.heap) (va_A [(a0, .inr (4, [w0_0, .ref a10, w0_2, w0_3, w0_4, w0_5, w0_6])), (a1, .inr (2, [w1_0, .ref a3, w1_2, .ref a5, w1_4, w1_5, w1_6, w1_7, w1_8, w1_9, w1_10, w1_11])), (a3, .inl (cI, 36, .inl f3)), (a5, .inl (cI, 18, .inl f5)), (a10, .inr (0, [.ref a1, w10_1, w10_2, w10_3, .ref a14, .ref a15])), (a14, .inl (cI, 6, .inl f14)), (a15, .inl (cI, 6, .inl f15))] sz)) 0 0 (va_A [(a0, .inr (4, [w0_0, .ref a10, w0_2, w0_3, w0_4, w0_5, w0_6])), (a1, .inr (2, [w1_0, .ref a3, w1_2, .ref a5, w1_4, w1_5, w1_6, w1_7, w1_8, w1_9, w1_10, w1_11])), (a3, .inl (cI, 36, .inl f3)), (a5, .inl (cI, 18, .inl f5)), (a10, .inr (0, [.ref a1, w10_1, w10_2, w10_3, .ref a14, .ref a15])), (a14, .inl (cI, 6, .inl f14)), (a15, .inl (cI, 6, .inl f15))] sz) := by
  refine Met.ofW (cc := cX4_bestOrder) (maxL := 2) (ret := (some .int)) (by decide) rfl ?_
  intro p e s m args below meth c s₁ B hml hv
  obtain ⟨rfl, hsz, hP, hD0, hKU⟩ := hv
  have hx := B.exec
  have hb := B.bytes
  have hr := B.returns
  have hts := atoms_spec (ws := wsX4_bestOrder) B.pre
  have hown : s.vm.findClass RX4 = some m.cls := findClass_of_methodNamed B.named
  have hlocks := B.notSynchronized
  have hK := hKU.1
  have hf_21 := hts (.fieldLink RX4 21 "ThinnedPots" "advice" "LThinnedPots$Advice;") (by decide +kernel)
  have hi_X4 : ∀ w ∈ u_ws RX4 TX4 7, w ∈ wsX4_bestOrder := by decide +kernel
  subst hsz
  have hD := hD0.self (sz := s.heap.size)
  generalize hAe : va_A [(a0, .inr (4, [w0_0, .ref a10, w0_2, w0_3, w0_4, w0_5, w0_6])), (a1, .inr (2, [w1_0, .ref a3, w1_2, .ref a5, w1_4, w1_5, w1_6, w1_7, w1_8, w1_9, w1_10, w1_11])), (a3, .inl (cI, 36, .inl f3)), (a5, .inl (cI, 18, .inl f5)), (a10, .inr (0, [.ref a1, w10_1, w10_2, w10_3, .ref a14, .ref a15])), (a14, .inl (cI, 6, .inl f14)), (a15, .inl (cI, 6, .inl f15))] s.heap.size = A at hD ⊢
  have hA : ∀ q : Nat, s.heap.size ≤ q → A q := fun q h => by rw [← hAe]; exact Or.inr h
  have hP : va_P D vwCl [(a0, .inr (4, [w0_0, .ref a10, w0_2, w0_3, w0_4, w0_5, w0_6])), (a1, .inr (2, [w1_0, .ref a3, w1_2, .ref a5, w1_4, w1_5, w1_6, w1_7, w1_8, w1_9, w1_10, w1_11])), (a3, .inl (cI, 36, .inl f3)), (a5, .inl (cI, 18, .inl f5)), (a10, .inr (0, [.ref a1, w10_1, w10_2, w10_3, .ref a14, .ref a15])), (a14, .inl (cI, 6, .inl f14)), (a15, .inl (cI, 6, .inl f15))] s.heap := hP
  generalize hHe : s.heap = H at hP ⊢
  have hS : va_S A s.heap H [] := by rw [hHe]; exact va_S.rf
  have hl := lv_entry ([.ref a0, .int u1]) (n := 2) (Nat.le_of_ble_eq_true rfl)
  rw [lg_entry_eq]
  generalize (lg_sl ([.ref a0, .int u1]) ++ List.replicate (2 - (lg_sl ([.ref a0, .int u1])).length) Slot.unset).toArray = ls at hl ⊢
  have hl : lv_has ls 2 [(0, .ref a0), (1, .int u1)] := hl
  unfold s_X4_bestOrder at hsp
  refine lv_iload_n hx hb dX4_bestOrder_0 rfl (lv_at hl 1 rfl) ?_
  refine lv_bipush (v := 6) hx hb dX4_bestOrder_1 (by decide) ?_
  obtain ⟨r1, hcr1, hsp⟩ := clE hsp
  refine call_z (w1 := []) (ws' := [(a0, .inr (4, [w0_0, .ref a10, w0_2, w0_3, w0_4, w0_5, w0_6])), (a1, .inr (2, [w1_0, .ref a3, w1_2, .ref a5, w1_4, w1_5, w1_6, w1_7, w1_8, w1_9, w1_10, w1_11])), (a3, .inl (cI, 36, .inl f3)), (a5, .inl (cI, 18, .inl f5)), (a10, .inr (0, [.ref a1, w10_1, w10_2, w10_3, .ref a14, .ref a15])), (a14, .inl (cI, 6, .inl f14)), (a15, .inl (cI, 6, .inl f15))]) (va_runS (As := [.int u1, .int 6]) (rest := []) ⟨hx, hb, hml, hown, hts⟩ (k_X4_isWithin l D cI cZ cC cS H.size u1 6 r1 hcr1) (va_cwS 2 hts gX4_bestOrder_X4_isWithin rfl rfl rfl nd_X4_isWithin.2 ⟨Nat.le_of_ble_eq_true rfl, Nat.le_of_ble_eq_true rfl⟩) (PB.preS hKU hP hD [] rfl rfl) rfl rfl hl.1 rfl (lv_room (Nat.le_of_ble_eq_true rfl)) dX4_bestOrder_3 ⟨Nat.zero_le _, Nat.zero_le _⟩) hS hP hD hA [] rfl rfl (by first | (simp only [wset, List.set_cons_zero, List.set_cons_succ]; done) | rfl) rfl (fun H locs hP hD hS hzr1 => ?_)
  refine lv_if_ne (tgt := 12) hx hb dX4_bestOrder_6 (by decide) (fun c2 => ?_) (fun c2 => ?_)
  · have hsp := itF hsp c2
    refine lv_aload_n hx hb dX4_bestOrder_12 rfl (lv_at hl 0 rfl) ?_
    refine va_get (D := D) (ci := 4) (v := .ref a10) (C := RX4) (T := TX4) (N := 7) hx hb hts hi_X4 hown hK hP 0 rfl rfl 1 (by decide) hf_21 (fun _ h9 => h9) rfl dX4_bestOrder_13 ?_
    refine lv_iload_n hx hb dX4_bestOrder_16 rfl (lv_at hl 1 rfl) ?_
    obtain ⟨r3, hcr3, hsp⟩ := clE hsp
    refine call_i (w1 := [(a10, .inr (0, [.ref a1, w10_1, w10_2, w10_3, .ref a14, .ref a15])), (a1, .inr (2, [w1_0, .ref a3, w1_2, .ref a5, w1_4, w1_5, w1_6, w1_7, w1_8, w1_9, w1_10, w1_11])), (a3, .inl (cI, 36, .inl f3)), (a5, .inl (cI, 18, .inl f5)), (a14, .inl (cI, 6, .inl r3.2.1)), (a15, .inl (cI, 6, .inl r3.2.2))]) (ws' := [(a0, .inr (4, [w0_0, .ref a10, w0_2, w0_3, w0_4, w0_5, w0_6])), (a1, .inr (2, [w1_0, .ref a3, w1_2, .ref a5, w1_4, w1_5, w1_6, w1_7, w1_8, w1_9, w1_10, w1_11])), (a3, .inl (cI, 36, .inl f3)), (a5, .inl (cI, 18, .inl f5)), (a10, .inr (0, [.ref a1, w10_1, w10_2, w10_3, .ref a14, .ref a15])), (a14, .inl (cI, 6, .inl r3.2.1)), (a15, .inl (cI, 6, .inl r3.2.2))]) (va_runV (As := [.int u1]) (rest := []) ⟨hx, hb, hml, hown, hts⟩ (k_X0_panelInOrder l D cI cZ cC cS H.size a10 a1 a3 a5 a14 a15 (w10_1) (w10_2) (w10_3) (w1_0) (w1_2) (w1_4) (w1_5) (w1_6) (w1_7) (w1_8) (w1_9) (w1_10) (w1_11) f3 f5 f14 f15 u1 r3 hcr3) (cwV 1 hts gX4_bestOrder_X0_panelInOrder rfl rfl rfl nd_X0_panelInOrder ⟨Nat.le_of_ble_eq_true rfl, Nat.le_of_ble_eq_true rfl⟩) (PB.preV (ci := 0) (q0 := 4) hKU hP hD [4, 1, 2, 3, 5, 6] rfl rfl rfl rfl) rfl rfl hl.1 rfl (lv_room (Nat.le_of_ble_eq_true rfl)) dX4_bestOrder_17 ⟨Nat.zero_le _, Nat.zero_le _⟩) hS hP hD hA [4, 1, 2, 3, 5, 6] rfl rfl (by first | (simp only [wset, List.set_cons_zero, List.set_cons_succ]; done) | rfl) rfl (fun H locs hP hD hS => ?_)
    have hres := Option.some.inj hsp
    subst hres
    exact W.iret (v := r3.1) hx hb hr (fun t ht hW => ⟨⟨r3.1, (), rfl, rfl, P_at ht hP⟩, hS.F ht⟩) hS.2.2 dX4_bestOrder_20
  have hsp := itT hsp c2
  refine lv_bipush (v := (-2)) hx hb dX4_bestOrder_9 (by decide) ?_
  have hres := Option.some.inj hsp
  subst hres
  exact W.iret (v := (-2)) hx hb hr (fun t ht hW => ⟨⟨(-2), (), rfl, rfl, P_at ht hP⟩, hS.F ht⟩) hS.2.2 dX4_bestOrder_11

theorem nd_X4_bestThinning : yX4_bestThinning.cls = RX4 ∧ yX4_bestThinning.cls ≠ "java/lang/invoke/MethodHandle" ∧ yX4_bestThinning.cls ≠ "java/lang/invoke/VarHandle" ∧ (parseMethodDescriptor yX4_bestThinning.desc).map (fun d => d.parameters.length) = some 3 := by decide +kernel
set_option maxHeartbeats 8000000 in
set_option maxRecDepth 100000 in
theorem k_X4_bestThinning (l : Launch) (D : va_G) (cI cZ cC cS : ClassId) (sz : Nat) (a0 a1 a3 a5 a10 : Nat) (w0_2 : Value) (w0_3 : Value) (w0_4 : Value) (w0_5 : Value) (w0_6 : Value) (w1_0 : Value) (w1_2 : Value) (w1_4 : Value) (w1_5 : Value) (w1_6 : Value) (w1_7 : Value) (w1_8 : Value) (w1_9 : Value) (w1_10 : Value) (w1_11 : Value) (f3 : Nat → Int32) (f5 : Nat → Int32) (w10_1 : Value) (w10_2 : Value) (w10_3 : Value) (w10_4 : Value) (w10_5 : Value) (u1 : Int32) (u2 : Int32) (u3 : Int32) (res : Int32) (hsp : s_X4_bestThinning f3 f5 u1 u2 u3 = some res) : Met l yX4_bestThinning wsX4_bestThinning ({ frames := 5, cells := 0, slots := 0, locals := 118 }) (va_Pc [.ref a0, .int u1, .int u2, .int u3] (PB D cI cZ cC cS [(a0, .inr (4, [.ref a1, .ref a10, w0_2, w0_3, w0_4, w0_5, w0_6])), (a1, .inr (2, [w1_0, .ref a3, w1_2, .ref a5, w1_4, w1_5, w1_6, w1_7, w1_8, w1_9, w1_10, w1_11])), (a3, .inl (cI, 36, .inl f3)), (a5, .inl (cI, 18, .inl f5)), (a10, .inr (0, [.ref a1, w10_1, w10_2, w10_3, w10_4, w10_5]))] sz)) (va_Qi (fun r (_ : Unit) => r = res) (fun _ t => va_P D vwCl [(a0, .inr (4, [.ref a1, .ref a10, w0_2, w0_3, w0_4, w0_5, w0_6])), (a1, .inr (2, [w1_0, .ref a3, w1_2, .ref a5, w1_4, w1_5, w1_6, w1_7, w1_8, w1_9, w1_10, w1_11])), (a3, .inl (cI, 36, .inl f3)), (a5, .inl (cI, 18, .inl f5)), (a10, .inr (0, [.ref a1, w10_1, w10_2, w10_3, w10_4, w10_5]))] t.heap) (va_A [(a0, .inr (4, [.ref a1, .ref a10, w0_2, w0_3, w0_4, w0_5, w0_6])), (a1, .inr (2, [w1_0, .ref a3, w1_2, .ref a5, w1_4, w1_5, w1_6, w1_7, w1_8, w1_9, w1_10, w1_11])), (a3, .inl (cI, 36, .inl f3)), (a5, .inl (cI, 18, .inl f5)), (a10, .inr (0, [.ref a1, w10_1, w10_2, w10_3, w10_4, w10_5]))] sz)) 0 0 (va_A [(a0, .inr (4, [.ref a1, .ref a10, w0_2, w0_3, w0_4, w0_5, w0_6])), (a1, .inr (2, [w1_0, .ref a3, w1_2, .ref a5, w1_4, w1_5, w1_6, w1_7, w1_8, w1_9, w1_10, w1_11])), (a3, .inl (cI, 36, .inl f3)), (a5, .inl (cI, 18, .inl f5)), (a10, .inr (0, [.ref a1, w10_1, w10_2, w10_3, w10_4, w10_5]))] sz) := by
  refine Met.ofW (cc := cX4_bestThinning) (maxL := 5) (ret := (some .int)) (by decide) rfl ?_
  intro p e s m args below meth c s₁ B hml hv
  obtain ⟨rfl, hsz, hP, hD0, hKU⟩ := hv
  have hx := B.exec
  have hb := B.bytes
  have hr := B.returns
  have hts := atoms_spec (ws := wsX4_bestThinning) B.pre
  have hown : s.vm.findClass RX4 = some m.cls := findClass_of_methodNamed B.named
  have hlocks := B.notSynchronized
  have hK := hKU.1
  have hf_12 := hts (.fieldLink RX4 12 "ThinnedPots" "studio" "LThinnedPots$Studio;") (by decide +kernel)
  have hi_X4 : ∀ w ∈ u_ws RX4 TX4 7, w ∈ wsX4_bestThinning := by decide +kernel
  have hf_21 := hts (.fieldLink RX4 21 "ThinnedPots" "advice" "LThinnedPots$Advice;") (by decide +kernel)
  subst hsz
  have hD := hD0.self (sz := s.heap.size)
  generalize hAe : va_A [(a0, .inr (4, [.ref a1, .ref a10, w0_2, w0_3, w0_4, w0_5, w0_6])), (a1, .inr (2, [w1_0, .ref a3, w1_2, .ref a5, w1_4, w1_5, w1_6, w1_7, w1_8, w1_9, w1_10, w1_11])), (a3, .inl (cI, 36, .inl f3)), (a5, .inl (cI, 18, .inl f5)), (a10, .inr (0, [.ref a1, w10_1, w10_2, w10_3, w10_4, w10_5]))] s.heap.size = A at hD ⊢
  have hA : ∀ q : Nat, s.heap.size ≤ q → A q := fun q h => by rw [← hAe]; exact Or.inr h
  have hP : va_P D vwCl [(a0, .inr (4, [.ref a1, .ref a10, w0_2, w0_3, w0_4, w0_5, w0_6])), (a1, .inr (2, [w1_0, .ref a3, w1_2, .ref a5, w1_4, w1_5, w1_6, w1_7, w1_8, w1_9, w1_10, w1_11])), (a3, .inl (cI, 36, .inl f3)), (a5, .inl (cI, 18, .inl f5)), (a10, .inr (0, [.ref a1, w10_1, w10_2, w10_3, w10_4, w10_5]))] s.heap := hP
  generalize hHe : s.heap = H at hP ⊢
  have hS : va_S A s.heap H [] := by rw [hHe]; exact va_S.rf
  have hl := lv_entry ([.ref a0, .int u1, .int u2, .int u3]) (n := 5) (Nat.le_of_ble_eq_true rfl)
  rw [lg_entry_eq]
  generalize (lg_sl ([.ref a0, .int u1, .int u2, .int u3]) ++ List.replicate (5 - (lg_sl ([.ref a0, .int u1, .int u2, .int u3])).length) Slot.unset).toArray = ls at hl ⊢
  have hl : lv_has ls 5 [(0, .ref a0), (1, .int u1), (2, .int u2), (3, .int u3)] := hl
  unfold s_X4_bestThinning at hsp
  refine lv_iload_n hx hb dX4_bestThinning_0 rfl (lv_at hl 1 rfl) ?_
  refine lv_bipush (v := 6) hx hb dX4_bestThinning_1 (by decide) ?_
  obtain ⟨r1, hcr1, hsp⟩ := clE hsp
  refine call_z (w1 := []) (ws' := [(a0, .inr (4, [.ref a1, .ref a10, w0_2, w0_3, w0_4, w0_5, w0_6])), (a1, .inr (2, [w1_0, .ref a3, w1_2, .ref a5, w1_4, w1_5, w1_6, w1_7, w1_8, w1_9, w1_10, w1_11])), (a3, .inl (cI, 36, .inl f3)), (a5, .inl (cI, 18, .inl f5)), (a10, .inr (0, [.ref a1, w10_1, w10_2, w10_3, w10_4, w10_5]))]) (va_runS (As := [.int u1, .int 6]) (rest := []) ⟨hx, hb, hml, hown, hts⟩ (k_X4_isWithin l D cI cZ cC cS H.size u1 6 r1 hcr1) (va_cwS 2 hts gX4_bestThinning_X4_isWithin rfl rfl rfl nd_X4_isWithin.2 ⟨Nat.le_of_ble_eq_true rfl, Nat.le_of_ble_eq_true rfl⟩) (PB.preS hKU hP hD [] rfl rfl) rfl rfl hl.1 rfl (lv_room (Nat.le_of_ble_eq_true rfl)) dX4_bestThinning_3 ⟨Nat.zero_le _, Nat.zero_le _⟩) hS hP hD hA [] rfl rfl (by first | (simp only [wset, List.set_cons_zero, List.set_cons_succ]; done) | rfl) rfl (fun H locs hP hD hS hzr1 => ?_)
  refine lv_if_eq (tgt := 18) hx hb dX4_bestThinning_6 (by decide) (fun c2 => ?_) (fun c2 => ?_)
  · have hsp := itT hsp c2
    refine lv_iconst (v := (-1)) hx hb dX4_bestThinning_18 (by decide) ?_
    have hres := Option.some.inj hsp
    subst hres
    exact W.iret (v := (-1)) hx hb hr (fun t ht hW => ⟨⟨(-1), (), rfl, rfl, P_at ht hP⟩, hS.F ht⟩) hS.2.2 dX4_bestThinning_19
  have hsp := itF hsp c2
  refine lv_iload_n hx hb dX4_bestThinning_9 rfl (lv_at hl 2 rfl) ?_
  refine lv_bipush (v := 8) hx hb dX4_bestThinning_10 (by decide) ?_
  obtain ⟨r3, hcr3, hsp⟩ := clE hsp
  refine call_z (w1 := []) (ws' := [(a0, .inr (4, [.ref a1, .ref a10, w0_2, w0_3, w0_4, w0_5, w0_6])), (a1, .inr (2, [w1_0, .ref a3, w1_2, .ref a5, w1_4, w1_5, w1_6, w1_7, w1_8, w1_9, w1_10, w1_11])), (a3, .inl (cI, 36, .inl f3)), (a5, .inl (cI, 18, .inl f5)), (a10, .inr (0, [.ref a1, w10_1, w10_2, w10_3, w10_4, w10_5]))]) (va_runS (As := [.int u2, .int 8]) (rest := []) ⟨hx, hb, hml, hown, hts⟩ (k_X4_isWithin l D cI cZ cC cS H.size u2 8 r3 hcr3) (va_cwS 2 hts gX4_bestThinning_X4_isWithin rfl rfl rfl nd_X4_isWithin.2 ⟨Nat.le_of_ble_eq_true rfl, Nat.le_of_ble_eq_true rfl⟩) (PB.preS hKU hP hD [] rfl rfl) rfl rfl hl.1 rfl (lv_room (Nat.le_of_ble_eq_true rfl)) dX4_bestThinning_12 ⟨Nat.zero_le _, Nat.zero_le _⟩) hS hP hD hA [] rfl rfl (by first | (simp only [wset, List.set_cons_zero, List.set_cons_succ]; done) | rfl) rfl (fun H locs hP hD hS hzr3 => ?_)
  refine lv_if_ne (tgt := 20) hx hb dX4_bestThinning_15 (by decide) (fun c4 => ?_) (fun c4 => ?_)
  · have hsp := itF hsp c4
    refine lv_iload_n hx hb dX4_bestThinning_20 rfl (lv_at hl 3 rfl) ?_
    refine lv_iconst (v := 2) hx hb dX4_bestThinning_21 (by decide) ?_
    obtain ⟨r5, hcr5, hsp⟩ := clE hsp
    refine call_z (w1 := []) (ws' := [(a0, .inr (4, [.ref a1, .ref a10, w0_2, w0_3, w0_4, w0_5, w0_6])), (a1, .inr (2, [w1_0, .ref a3, w1_2, .ref a5, w1_4, w1_5, w1_6, w1_7, w1_8, w1_9, w1_10, w1_11])), (a3, .inl (cI, 36, .inl f3)), (a5, .inl (cI, 18, .inl f5)), (a10, .inr (0, [.ref a1, w10_1, w10_2, w10_3, w10_4, w10_5]))]) (va_runS (As := [.int u3, .int 2]) (rest := []) ⟨hx, hb, hml, hown, hts⟩ (k_X4_isWithin l D cI cZ cC cS H.size u3 2 r5 hcr5) (va_cwS 2 hts gX4_bestThinning_X4_isWithin rfl rfl rfl nd_X4_isWithin.2 ⟨Nat.le_of_ble_eq_true rfl, Nat.le_of_ble_eq_true rfl⟩) (PB.preS hKU hP hD [] rfl rfl) rfl rfl hl.1 rfl (lv_room (Nat.le_of_ble_eq_true rfl)) dX4_bestThinning_22 ⟨Nat.zero_le _, Nat.zero_le _⟩) hS hP hD hA [] rfl rfl (by first | (simp only [wset, List.set_cons_zero, List.set_cons_succ]; done) | rfl) rfl (fun H locs hP hD hS hzr5 => ?_)
    refine lv_if_ne (tgt := 31) hx hb dX4_bestThinning_25 (by decide) (fun c6 => ?_) (fun c6 => ?_)
    · have hsp := itF hsp c6
      refine lv_aload_n hx hb dX4_bestThinning_31 rfl (lv_at hl 0 rfl) ?_
      refine va_get (D := D) (ci := 4) (v := .ref a1) (C := RX4) (T := TX4) (N := 7) hx hb hts hi_X4 hown hK hP 0 rfl rfl 0 (by decide) hf_12 (fun _ h9 => h9) rfl dX4_bestThinning_32 ?_
      refine lv_iload_n hx hb dX4_bestThinning_35 rfl (lv_at hl 2 rfl) ?_
      obtain ⟨r7, hcr7, hsp⟩ := clE hsp
      refine call_z (w1 := [(a1, .inr (2, [w1_0, .ref a3, w1_2, .ref a5, w1_4, w1_5, w1_6, w1_7, w1_8, w1_9, w1_10, w1_11])), (a3, .inl (cI, 36, .inl f3))]) (ws' := [(a0, .inr (4, [.ref a1, .ref a10, w0_2, w0_3, w0_4, w0_5, w0_6])), (a1, .inr (2, [w1_0, .ref a3, w1_2, .ref a5, w1_4, w1_5, w1_6, w1_7, w1_8, w1_9, w1_10, w1_11])), (a3, .inl (cI, 36, .inl f3)), (a5, .inl (cI, 18, .inl f5)), (a10, .inr (0, [.ref a1, w10_1, w10_2, w10_3, w10_4, w10_5]))]) (va_runV (As := [.int u2]) (rest := []) ⟨hx, hb, hml, hown, hts⟩ (k_X2_hasPaint l D cI cZ cC cS H.size a1 a3 (w1_0) (w1_2) (.ref a5) (w1_4) (w1_5) (w1_6) (w1_7) (w1_8) (w1_9) (w1_10) (w1_11) f3 u2 r7 hcr7) (cwV 1 hts gX4_bestThinning_X2_hasPaint rfl rfl rfl nd_X2_hasPaint ⟨Nat.le_of_ble_eq_true rfl, Nat.le_of_ble_eq_true rfl⟩) (PB.preV (ci := 2) (q0 := 1) hKU hP hD [1, 2] rfl rfl rfl rfl) rfl rfl hl.1 rfl (lv_room (Nat.le_of_ble_eq_true rfl)) dX4_bestThinning_36 ⟨Nat.zero_le _, Nat.zero_le _⟩) hS hP hD hA [1, 2] rfl rfl (by first | (simp only [wset, List.set_cons_zero, List.set_cons_succ]; done) | rfl) rfl (fun H locs hP hD hS hzr7 => ?_)
      refine lv_if_ne (tgt := 45) hx hb dX4_bestThinning_39 (by decide) (fun c8 => ?_) (fun c8 => ?_)
      · have hsp := itF hsp c8
        refine lv_aload_n hx hb dX4_bestThinning_45 rfl (lv_at hl 0 rfl) ?_
        refine va_get (D := D) (ci := 4) (v := .ref a10) (C := RX4) (T := TX4) (N := 7) hx hb hts hi_X4 hown hK hP 0 rfl rfl 1 (by decide) hf_21 (fun _ h9 => h9) rfl dX4_bestThinning_46 ?_
        refine lv_iload_n hx hb dX4_bestThinning_49 rfl (lv_at hl 1 rfl) ?_
        refine lv_iload_n hx hb dX4_bestThinning_50 rfl (lv_at hl 2 rfl) ?_
        obtain ⟨r9, hcr9, hsp⟩ := clE hsp
        refine call_i (w1 := [(a10, .inr (0, [.ref a1, w10_1, w10_2, w10_3, w10_4, w10_5])), (a1, .inr (2, [w1_0, .ref a3, w1_2, .ref a5, w1_4, w1_5, w1_6, w1_7, w1_8, w1_9, w1_10, w1_11])), (a3, .inl (cI, 36, .inl f3)), (a5, .inl (cI, 18, .inl f5))]) (ws' := [(a0, .inr (4, [.ref a1, .ref a10, w0_2, w0_3, w0_4, w0_5, w0_6])), (a1, .inr (2, [w1_0, .ref a3, w1_2, .ref a5, w1_4, w1_5, w1_6, w1_7, w1_8, w1_9, w1_10, w1_11])), (a3, .inl (cI, 36, .inl f3)), (a5, .inl (cI, 18, .inl f5)), (a10, .inr (0, [.ref a1, w10_1, w10_2, w10_3, w10_4, w10_5]))]) (va_runV (As := [.int u1, .int u2]) (rest := []) ⟨hx, hb, hml, hown, hts⟩ (k_X0_bestTimes l D cI cZ cC cS H.size a10 a1 a3 a5 (w10_1) (w10_2) (w10_3) (w10_4) (w10_5) (w1_0) (w1_2) (w1_4) (w1_5) (w1_6) (w1_7) (w1_8) (w1_9) (w1_10) (w1_11) f3 f5 u1 u2 r9 hcr9) (cwV 2 hts gX4_bestThinning_X0_bestTimes rfl rfl rfl nd_X0_bestTimes ⟨Nat.le_of_ble_eq_true rfl, Nat.le_of_ble_eq_true rfl⟩) (PB.preV (ci := 0) (q0 := 4) hKU hP hD [4, 1, 2, 3] rfl rfl rfl rfl) rfl rfl hl.1 rfl (lv_room (Nat.le_of_ble_eq_true rfl)) dX4_bestThinning_51 ⟨Nat.zero_le _, Nat.zero_le _⟩) hS hP hD hA [4, 1, 2, 3] rfl rfl (by first | (simp only [wset, List.set_cons_zero, List.set_cons_succ]; done) | rfl) rfl (fun H locs hP hD hS => ?_)
        refine lv_istore (lv' := [(4, .int r9), (0, .ref a0), (1, .int u1), (2, .int u2), (3, .int u3)]) hx hb dX4_bestThinning_54 hl (by decide) rfl (fun ls hl => ?_)
        refine lv_iload_n hx hb dX4_bestThinning_56 rfl (lv_at hl 4 rfl) ?_
        refine lv_if_ne (tgt := 63) hx hb dX4_bestThinning_57 (by decide) (fun c10 => ?_) (fun c10 => ?_)
        · have hsp := itF hsp c10
          refine lv_aload_n hx hb dX4_bestThinning_63 rfl (lv_at hl 1 rfl) ?_
          refine va_get (D := D) (ci := 4) (v := .ref a10) (C := RX4) (T := TX4) (N := 7) hx hb hts hi_X4 hown hK hP 0 rfl rfl 1 (by decide) hf_21 (fun _ h9 => h9) rfl dX4_bestThinning_64 ?_
          refine lv_iload_n hx hb dX4_bestThinning_67 rfl (lv_at hl 2 rfl) ?_
          refine lv_iload_n hx hb dX4_bestThinning_68 rfl (lv_at hl 3 rfl) ?_
          refine lv_iload hx hb dX4_bestThinning_69 (lv_at hl 0 rfl) ?_
          obtain ⟨r11, hcr11, hsp⟩ := clE hsp
          refine call_i (w1 := [(a10, .inr (0, [.ref a1, w10_1, w10_2, w10_3, w10_4, w10_5])), (a1, .inr (2, [w1_0, .ref a3, w1_2, .ref a5, w1_4, w1_5, w1_6, w1_7, w1_8, w1_9, w1_10, w1_11])), (a3, .inl (cI, 36, .inl f3)), (a5, .inl (cI, 18, .inl f5))]) (ws' := [(a0, .inr (4, [.ref a1, .ref a10, w0_2, w0_3, w0_4, w0_5, w0_6])), (a1, .inr (2, [w1_0, .ref a3, w1_2, .ref a5, w1_4, w1_5, w1_6, w1_7, w1_8, w1_9, w1_10, w1_11])), (a3, .inl (cI, 36, .inl f3)), (a5, .inl (cI, 18, .inl f5)), (a10, .inr (0, [.ref a1, w10_1, w10_2, w10_3, w10_4, w10_5]))]) (va_runV (As := [.int u1, .int u2, .int r9]) (rest := []) ⟨hx, hb, hml, hown, hts⟩ (k_X0_distanceThinned l D cI cZ cC cS H.size a10 a1 a3 a5 (w10_1) (w10_2) (w10_3) (w10_4) (w10_5) (w1_0) (w1_2) (w1_4) (w1_5) (w1_6) (w1_7) (w1_8) (w1_9) (w1_10) (w1_11) f3 f5 u1 u2 r9 r11 hcr11) (cwV 3 hts gX4_bestThinning_X0_distanceThinned rfl rfl rfl nd_X0_distanceThinned ⟨Nat.le_of_ble_eq_true rfl, Nat.le_of_ble_eq_true rfl⟩) (PB.preV (ci := 0) (q0 := 4) hKU hP hD [4, 1, 2, 3] rfl rfl rfl rfl) rfl rfl hl.1 rfl (lv_room (Nat.le_of_ble_eq_true rfl)) dX4_bestThinning_71 ⟨Nat.zero_le _, Nat.zero_le _⟩) hS hP hD hA [4, 1, 2, 3] rfl rfl (by first | (simp only [wset, List.set_cons_zero, List.set_cons_succ]; done) | rfl) rfl (fun H locs hP hD hS => ?_)
          have hres := Option.some.inj hsp
          subst hres
          exact W.iret (v := r11) hx hb hr (fun t ht hW => ⟨⟨r11, (), rfl, rfl, P_at ht hP⟩, hS.F ht⟩) hS.2.2 dX4_bestThinning_74
        have hsp := itT hsp c10
        refine lv_iload hx hb dX4_bestThinning_60 (lv_at hl 0 rfl) ?_
        have hres := Option.some.inj hsp
        subst hres
        exact W.iret (v := r9) hx hb hr (fun t ht hW => ⟨⟨r9, (), rfl, rfl, P_at ht hP⟩, hS.F ht⟩) hS.2.2 dX4_bestThinning_62
      have hsp := itT hsp c8
      refine lv_bipush (v := (-5)) hx hb dX4_bestThinning_42 (by decide) ?_
      have hres := Option.some.inj hsp
      subst hres
      exact W.iret (v := (-5)) hx hb hr (fun t ht hW => ⟨⟨(-5), (), rfl, rfl, P_at ht hP⟩, hS.F ht⟩) hS.2.2 dX4_bestThinning_44
    have hsp := itT hsp c6
    refine lv_bipush (v := (-2)) hx hb dX4_bestThinning_28 (by decide) ?_
    have hres := Option.some.inj hsp
    subst hres
    exact W.iret (v := (-2)) hx hb hr (fun t ht hW => ⟨⟨(-2), (), rfl, rfl, P_at ht hP⟩, hS.F ht⟩) hS.2.2 dX4_bestThinning_30
  have hsp := itT hsp c4
  refine lv_iconst (v := (-1)) hx hb dX4_bestThinning_18 (by decide) ?_
  have hres := Option.some.inj hsp
  subst hres
  exact W.iret (v := (-1)) hx hb hr (fun t ht hW => ⟨⟨(-1), (), rfl, rfl, P_at ht hP⟩, hS.F ht⟩) hS.2.2 dX4_bestThinning_19

theorem nd_X4_brush : yX4_brush.cls = RX4 ∧ yX4_brush.cls ≠ "java/lang/invoke/MethodHandle" ∧ yX4_brush.cls ≠ "java/lang/invoke/VarHandle" ∧ (parseMethodDescriptor yX4_brush.desc).map (fun d => d.parameters.length) = some 1 := by decide +kernel
set_option maxHeartbeats 8000000 in
set_option maxRecDepth 100000 in
theorem k_X4_brush (l : Launch) (D : va_G) (cI cZ cC cS : ClassId) (sz : Nat) (a0 a1 a3 : Nat) (w0_1 : Value) (w0_2 : Value) (w0_3 : Value) (w0_4 : Value) (w0_5 : Value) (w0_6 : Value) (w1_0 : Value) (w1_2 : Value) (w1_3 : Value) (w1_4 : Value) (w1_5 : Value) (w1_6 : Value) (w1_7 : Value) (w1_8 : Value) (w1_9 : Value) (w1_10 : Value) (w1_11 : Value) (f3 : Nat → Int32) (u1 : Int32) (res : Int32) (hsp : s_X4_brush f3 u1 = some res) : Met l yX4_brush wsX4_brush ({ frames := 3, cells := 0, slots := 0, locals := 66 }) (va_Pc [.ref a0, .int u1] (PB D cI cZ cC cS [(a0, .inr (4, [.ref a1, w0_1, w0_2, w0_3, w0_4, w0_5, w0_6])), (a1, .inr (2, [w1_0, .ref a3, w1_2, w1_3, w1_4, w1_5, w1_6, w1_7, w1_8, w1_9, w1_10, w1_11])), (a3, .inl (cI, 36, .inl f3))] sz)) (va_Qi (fun r (_ : Unit) => r = res) (fun _ t => va_P D vwCl [(a0, .inr (4, [.ref a1, w0_1, w0_2, w0_3, w0_4, w0_5, w0_6])), (a1, .inr (2, [w1_0, .ref a3, w1_2, w1_3, w1_4, w1_5, w1_6, w1_7, w1_8, w1_9, w1_10, w1_11])), (a3, .inl (cI, 36, .inl f3))] t.heap) (va_A [(a0, .inr (4, [.ref a1, w0_1, w0_2, w0_3, w0_4, w0_5, w0_6])), (a1, .inr (2, [w1_0, .ref a3, w1_2, w1_3, w1_4, w1_5, w1_6, w1_7, w1_8, w1_9, w1_10, w1_11])), (a3, .inl (cI, 36, .inl f3))] sz)) 0 0 (va_A [(a0, .inr (4, [.ref a1, w0_1, w0_2, w0_3, w0_4, w0_5, w0_6])), (a1, .inr (2, [w1_0, .ref a3, w1_2, w1_3, w1_4, w1_5, w1_6, w1_7, w1_8, w1_9, w1_10, w1_11])), (a3, .inl (cI, 36, .inl f3))] sz) := by
  refine Met.ofW (cc := cX4_brush) (maxL := 2) (ret := (some .int)) (by decide) rfl ?_
  intro p e s m args below meth c s₁ B hml hv
  obtain ⟨rfl, hsz, hP, hD0, hKU⟩ := hv
  have hx := B.exec
  have hb := B.bytes
  have hr := B.returns
  have hts := atoms_spec (ws := wsX4_brush) B.pre
  have hown : s.vm.findClass RX4 = some m.cls := findClass_of_methodNamed B.named
  have hlocks := B.notSynchronized
  have hK := hKU.1
  have hf_12 := hts (.fieldLink RX4 12 "ThinnedPots" "studio" "LThinnedPots$Studio;") (by decide +kernel)
  have hi_X4 : ∀ w ∈ u_ws RX4 TX4 7, w ∈ wsX4_brush := by decide +kernel
  subst hsz
  have hD := hD0.self (sz := s.heap.size)
  generalize hAe : va_A [(a0, .inr (4, [.ref a1, w0_1, w0_2, w0_3, w0_4, w0_5, w0_6])), (a1, .inr (2, [w1_0, .ref a3, w1_2, w1_3, w1_4, w1_5, w1_6, w1_7, w1_8, w1_9, w1_10, w1_11])), (a3, .inl (cI, 36, .inl f3))] s.heap.size = A at hD ⊢
  have hA : ∀ q : Nat, s.heap.size ≤ q → A q := fun q h => by rw [← hAe]; exact Or.inr h
  have hP : va_P D vwCl [(a0, .inr (4, [.ref a1, w0_1, w0_2, w0_3, w0_4, w0_5, w0_6])), (a1, .inr (2, [w1_0, .ref a3, w1_2, w1_3, w1_4, w1_5, w1_6, w1_7, w1_8, w1_9, w1_10, w1_11])), (a3, .inl (cI, 36, .inl f3))] s.heap := hP
  generalize hHe : s.heap = H at hP ⊢
  have hS : va_S A s.heap H [] := by rw [hHe]; exact va_S.rf
  have hl := lv_entry ([.ref a0, .int u1]) (n := 2) (Nat.le_of_ble_eq_true rfl)
  rw [lg_entry_eq]
  generalize (lg_sl ([.ref a0, .int u1]) ++ List.replicate (2 - (lg_sl ([.ref a0, .int u1])).length) Slot.unset).toArray = ls at hl ⊢
  have hl : lv_has ls 2 [(0, .ref a0), (1, .int u1)] := hl
  unfold s_X4_brush at hsp
  refine lv_aload_n hx hb dX4_brush_0 rfl (lv_at hl 0 rfl) ?_
  refine va_get (D := D) (ci := 4) (v := .ref a1) (C := RX4) (T := TX4) (N := 7) hx hb hts hi_X4 hown hK hP 0 rfl rfl 0 (by decide) hf_12 (fun _ h9 => h9) rfl dX4_brush_1 ?_
  refine lv_bipush (v := 8) hx hb dX4_brush_4 (by decide) ?_
  refine lv_iload_n hx hb dX4_brush_6 rfl (lv_at hl 1 rfl) ?_
  obtain ⟨r1, hcr1, hsp⟩ := clE hsp
  refine call_i (w1 := [(a1, .inr (2, [w1_0, .ref a3, w1_2, w1_3, w1_4, w1_5, w1_6, w1_7, w1_8, w1_9, w1_10, w1_11])), (a3, .inl (cI, 36, .inl f3))]) (ws' := [(a0, .inr (4, [.ref a1, w0_1, w0_2, w0_3, w0_4, w0_5, w0_6])), (a1, .inr (2, [w1_0, .ref a3, w1_2, w1_3, w1_4, w1_5, w1_6, w1_7, w1_8, w1_9, w1_10, w1_11])), (a3, .inl (cI, 36, .inl f3))]) (va_runV (As := [.int 8, .int u1]) (rest := []) ⟨hx, hb, hml, hown, hts⟩ (k_X2_aboutPaint l D cI cZ cC cS H.size a1 a3 (w1_0) (w1_2) (w1_3) (w1_4) (w1_5) (w1_6) (w1_7) (w1_8) (w1_9) (w1_10) (w1_11) f3 8 u1 r1 hcr1) (cwV 2 hts gX4_brush_X2_aboutPaint rfl rfl rfl nd_X2_aboutPaint ⟨Nat.le_of_ble_eq_true rfl, Nat.le_of_ble_eq_true rfl⟩) (PB.preV (ci := 2) (q0 := 1) hKU hP hD [1, 2] rfl rfl rfl rfl) rfl rfl hl.1 rfl (lv_room (Nat.le_of_ble_eq_true rfl)) dX4_brush_7 ⟨Nat.zero_le _, Nat.zero_le _⟩) hS hP hD hA [1, 2] rfl rfl (by first | (simp only [wset, List.set_cons_zero, List.set_cons_succ]; done) | rfl) rfl (fun H locs hP hD hS => ?_)
  have hres := Option.some.inj hsp
  subst hres
  exact W.iret (v := r1) hx hb hr (fun t ht hW => ⟨⟨r1, (), rfl, rfl, P_at ht hP⟩, hS.F ht⟩) hS.2.2 dX4_brush_10

theorem nd_X4_count : yX4_count.cls = RX4 ∧ yX4_count.cls ≠ "java/lang/invoke/MethodHandle" ∧ yX4_count.cls ≠ "java/lang/invoke/VarHandle" ∧ (parseMethodDescriptor yX4_count.desc).map (fun d => d.parameters.length) = some 1 := by decide +kernel
set_option maxHeartbeats 8000000 in
set_option maxRecDepth 100000 in
theorem k_X4_count (l : Launch) (D : va_G) (cI cZ cC cS : ClassId) (sz : Nat) (a0 a1 a2 a3 a5 a6 a7 a16 : Nat) (w0_1 : Value) (w0_3 : Value) (w0_4 : Value) (w0_5 : Value) (g0_6 : Int32) (w1_2 : Value) (g1_6 : Int32) (g1_7 : Int32) (g1_8 : Int32) (g1_9 : Int32) (w1_10 : Value) (w1_11 : Value) (f2 : Nat → Int32) (f3 : Nat → Int32) (f5 : Nat → Int32) (f6 : Nat → Int32) (f7 : Nat → Int32) (w16_0 : Value) (g16_1 : Int32) (w16_2 : Value) (w16_3 : Value) (u1 : Int32) (res : Int32) (hsp : s_X4_count g0_6 g1_6 g1_7 g1_8 g1_9 f2 f3 f5 f6 f7 g16_1 u1 = some res) : Met l yX4_count wsX4_count ({ frames := 6, cells := 0, slots := 0, locals := 135 }) (va_Pc [.ref a0, .int u1] (PB D cI cZ cC cS [(a0, .inr (4, [.ref a1, w0_1, .ref a16, w0_3, w0_4, w0_5, .int g0_6])), (a1, .inr (2, [.ref a2, .ref a3, w1_2, .ref a5, .ref a6, .ref a7, .int g1_6, .int g1_7, .int g1_8, .int g1_9, w1_10, w1_11])), (a2, .inl (cI, 2, .inl f2)), (a3, .inl (cI, 36, .inl f3)), (a5, .inl (cI, 18, .inl f5)), (a6, .inl (cI, 18, .inl f6)), (a7, .inl (cI, 6, .inl f7)), (a16, .inr (1, [w16_0, .int g16_1, w16_2, w16_3]))] sz)) (va_Qi (fun r (_ : Unit) => r = res) (fun _ t => va_P D vwCl [(a0, .inr (4, [.ref a1, w0_1, .ref a16, w0_3, w0_4, w0_5, .int g0_6])), (a1, .inr (2, [.ref a2, .ref a3, w1_2, .ref a5, .ref a6, .ref a7, .int g1_6, .int g1_7, .int g1_8, .int g1_9, w1_10, w1_11])), (a2, .inl (cI, 2, .inl f2)), (a3, .inl (cI, 36, .inl f3)), (a5, .inl (cI, 18, .inl f5)), (a6, .inl (cI, 18, .inl f6)), (a7, .inl (cI, 6, .inl f7)), (a16, .inr (1, [w16_0, .int g16_1, w16_2, w16_3]))] t.heap) (va_A [(a0, .inr (4, [.ref a1, w0_1, .ref a16, w0_3, w0_4, w0_5, .int g0_6])), (a1, .inr (2, [.ref a2, .ref a3, w1_2, .ref a5, .ref a6, .ref a7, .int g1_6, .int g1_7, .int g1_8, .int g1_9, w1_10, w1_11])), (a2, .inl (cI, 2, .inl f2)), (a3, .inl (cI, 36, .inl f3)), (a5, .inl (cI, 18, .inl f5)), (a6, .inl (cI, 18, .inl f6)), (a7, .inl (cI, 6, .inl f7)), (a16, .inr (1, [w16_0, .int g16_1, w16_2, w16_3]))] sz)) 0 0 (va_A [(a0, .inr (4, [.ref a1, w0_1, .ref a16, w0_3, w0_4, w0_5, .int g0_6])), (a1, .inr (2, [.ref a2, .ref a3, w1_2, .ref a5, .ref a6, .ref a7, .int g1_6, .int g1_7, .int g1_8, .int g1_9, w1_10, w1_11])), (a2, .inl (cI, 2, .inl f2)), (a3, .inl (cI, 36, .inl f3)), (a5, .inl (cI, 18, .inl f5)), (a6, .inl (cI, 18, .inl f6)), (a7, .inl (cI, 6, .inl f7)), (a16, .inr (1, [w16_0, .int g16_1, w16_2, w16_3]))] sz) := by
  refine Met.ofW (cc := cX4_count) (maxL := 2) (ret := (some .int)) (by decide) rfl ?_
  intro p e s m args below meth c s₁ B hml hv
  obtain ⟨rfl, hsz, hP, hD0, hKU⟩ := hv
  have hx := B.exec
  have hb := B.bytes
  have hr := B.returns
  have hts := atoms_spec (ws := wsX4_count) B.pre
  have hown : s.vm.findClass RX4 = some m.cls := findClass_of_methodNamed B.named
  have hlocks := B.notSynchronized
  have hK := hKU.1
  have hf_12 := hts (.fieldLink RX4 12 "ThinnedPots" "studio" "LThinnedPots$Studio;") (by decide +kernel)
  have hi_X4 : ∀ w ∈ u_ws RX4 TX4 7, w ∈ wsX4_count := by decide +kernel
  have hf_43 := hts (.fieldLink RX4 43 "ThinnedPots" "kept" "I") (by decide +kernel)
  have hf_28 := hts (.fieldLink RX4 28 "ThinnedPots" "pad" "LThinnedPots$Pad;") (by decide +kernel)
  subst hsz
  have hD := hD0.self (sz := s.heap.size)
  generalize hAe : va_A [(a0, .inr (4, [.ref a1, w0_1, .ref a16, w0_3, w0_4, w0_5, .int g0_6])), (a1, .inr (2, [.ref a2, .ref a3, w1_2, .ref a5, .ref a6, .ref a7, .int g1_6, .int g1_7, .int g1_8, .int g1_9, w1_10, w1_11])), (a2, .inl (cI, 2, .inl f2)), (a3, .inl (cI, 36, .inl f3)), (a5, .inl (cI, 18, .inl f5)), (a6, .inl (cI, 18, .inl f6)), (a7, .inl (cI, 6, .inl f7)), (a16, .inr (1, [w16_0, .int g16_1, w16_2, w16_3]))] s.heap.size = A at hD ⊢
  have hA : ∀ q : Nat, s.heap.size ≤ q → A q := fun q h => by rw [← hAe]; exact Or.inr h
  have hP : va_P D vwCl [(a0, .inr (4, [.ref a1, w0_1, .ref a16, w0_3, w0_4, w0_5, .int g0_6])), (a1, .inr (2, [.ref a2, .ref a3, w1_2, .ref a5, .ref a6, .ref a7, .int g1_6, .int g1_7, .int g1_8, .int g1_9, w1_10, w1_11])), (a2, .inl (cI, 2, .inl f2)), (a3, .inl (cI, 36, .inl f3)), (a5, .inl (cI, 18, .inl f5)), (a6, .inl (cI, 18, .inl f6)), (a7, .inl (cI, 6, .inl f7)), (a16, .inr (1, [w16_0, .int g16_1, w16_2, w16_3]))] s.heap := hP
  generalize hHe : s.heap = H at hP ⊢
  have hS : va_S A s.heap H [] := by rw [hHe]; exact va_S.rf
  have hl := lv_entry ([.ref a0, .int u1]) (n := 2) (Nat.le_of_ble_eq_true rfl)
  rw [lg_entry_eq]
  generalize (lg_sl ([.ref a0, .int u1]) ++ List.replicate (2 - (lg_sl ([.ref a0, .int u1])).length) Slot.unset).toArray = ls at hl ⊢
  have hl : lv_has ls 2 [(0, .ref a0), (1, .int u1)] := hl
  unfold s_X4_count at hsp
  refine lv_iload_n hx hb dX4_count_0 rfl (lv_at hl 1 rfl) ?_
  refine lv_bipush (v := 10) hx hb dX4_count_1 (by decide) ?_
  refine lv_icmp_ne (tgt := 14) hx hb dX4_count_3 (by decide) (fun c1 => ?_) (fun c1 => ?_)
  · have hsp := itF hsp c1
    refine lv_iload_n hx hb dX4_count_14 rfl (lv_at hl 1 rfl) ?_
    refine lv_bipush (v := 11) hx hb dX4_count_15 (by decide) ?_
    refine lv_icmp_ne (tgt := 25) hx hb dX4_count_17 (by decide) (fun c2 => ?_) (fun c2 => ?_)
    · have hsp := itF hsp c2
      refine lv_aload_n hx hb dX4_count_25 rfl (lv_at hl 0 rfl) ?_
      refine va_get (D := D) (ci := 4) (v := .ref a1) (C := RX4) (T := TX4) (N := 7) hx hb hts hi_X4 hown hK hP 0 rfl rfl 0 (by decide) hf_12 (fun _ h9 => h9) rfl dX4_count_26 ?_
      refine lv_iload_n hx hb dX4_count_29 rfl (lv_at hl 1 rfl) ?_
      obtain ⟨r3, hcr3, hsp⟩ := clE hsp
      refine call_i (w1 := [(a1, .inr (2, [.ref a2, .ref a3, w1_2, .ref a5, .ref a6, .ref a7, .int g1_6, .int g1_7, .int g1_8, .int g1_9, w1_10, w1_11])), (a2, .inl (cI, 2, .inl f2)), (a3, .inl (cI, 36, .inl f3)), (a5, .inl (cI, 18, .inl f5)), (a6, .inl (cI, 18, .inl f6)), (a7, .inl (cI, 6, .inl f7))]) (ws' := [(a0, .inr (4, [.ref a1, w0_1, .ref a16, w0_3, w0_4, w0_5, .int g0_6])), (a1, .inr (2, [.ref a2, .ref a3, w1_2, .ref a5, .ref a6, .ref a7, .int g1_6, .int g1_7, .int g1_8, .int g1_9, w1_10, w1_11])), (a2, .inl (cI, 2, .inl f2)), (a3, .inl (cI, 36, .inl f3)), (a5, .inl (cI, 18, .inl f5)), (a6, .inl (cI, 18, .inl f6)), (a7, .inl (cI, 6, .inl f7)), (a16, .inr (1, [w16_0, .int g16_1, w16_2, w16_3]))]) (va_runV (As := [.int u1]) (rest := []) ⟨hx, hb, hml, hown, hts⟩ (k_X2_account l D cI cZ cC cS H.size a1 a2 a3 a5 a6 a7 (w1_2) g1_6 g1_7 g1_8 g1_9 (w1_10) (w1_11) f2 f3 f5 f6 f7 u1 r3 hcr3) (cwV 1 hts gX4_count_X2_account rfl rfl rfl nd_X2_account ⟨Nat.le_of_ble_eq_true rfl, Nat.le_of_ble_eq_true rfl⟩) (PB.preV (ci := 2) (q0 := 1) hKU hP hD [1, 2, 3, 4, 5, 6] rfl rfl rfl rfl) rfl rfl hl.1 rfl (lv_room (Nat.le_of_ble_eq_true rfl)) dX4_count_30 ⟨Nat.zero_le _, Nat.zero_le _⟩) hS hP hD hA [1, 2, 3, 4, 5, 6] rfl rfl (by first | (simp only [wset, List.set_cons_zero, List.set_cons_succ]; done) | rfl) rfl (fun H locs hP hD hS => ?_)
      have hres := Option.some.inj hsp
      subst hres
      exact W.iret (v := r3) hx hb hr (fun t ht hW => ⟨⟨r3, (), rfl, rfl, P_at ht hP⟩, hS.F ht⟩) hS.2.2 dX4_count_33
    have hsp := itT hsp c2
    refine lv_aload_n hx hb dX4_count_20 rfl (lv_at hl 0 rfl) ?_
    refine va_get (D := D) (ci := 4) (v := .int g0_6) (C := RX4) (T := TX4) (N := 7) hx hb hts hi_X4 hown hK hP 0 rfl rfl 6 (by decide) hf_43 (fun _ h9 => h9) rfl dX4_count_21 ?_
    have hres := Option.some.inj hsp
    subst hres
    exact W.iret (v := g0_6) hx hb hr (fun t ht hW => ⟨⟨g0_6, (), rfl, rfl, P_at ht hP⟩, hS.F ht⟩) hS.2.2 dX4_count_24
  have hsp := itT hsp c1
  refine lv_aload_n hx hb dX4_count_6 rfl (lv_at hl 0 rfl) ?_
  refine va_get (D := D) (ci := 4) (v := .ref a16) (C := RX4) (T := TX4) (N := 7) hx hb hts hi_X4 hown hK hP 0 rfl rfl 2 (by decide) hf_28 (fun _ h9 => h9) rfl dX4_count_7 ?_
  obtain ⟨r4, hcr4, hsp⟩ := clE hsp
  refine call_i (w1 := [(a16, .inr (1, [w16_0, .int g16_1, w16_2, w16_3]))]) (ws' := [(a0, .inr (4, [.ref a1, w0_1, .ref a16, w0_3, w0_4, w0_5, .int g0_6])), (a1, .inr (2, [.ref a2, .ref a3, w1_2, .ref a5, .ref a6, .ref a7, .int g1_6, .int g1_7, .int g1_8, .int g1_9, w1_10, w1_11])), (a2, .inl (cI, 2, .inl f2)), (a3, .inl (cI, 36, .inl f3)), (a5, .inl (cI, 18, .inl f5)), (a6, .inl (cI, 18, .inl f6)), (a7, .inl (cI, 6, .inl f7)), (a16, .inr (1, [w16_0, .int g16_1, w16_2, w16_3]))]) (va_runV (As := []) (rest := []) ⟨hx, hb, hml, hown, hts⟩ (k_X1_length l D cI cZ cC cS H.size a16 (w16_0) g16_1 (w16_2) (w16_3) r4 hcr4) (cwV 0 hts gX4_count_X1_length rfl rfl rfl nd_X1_length ⟨Nat.le_of_ble_eq_true rfl, Nat.le_of_ble_eq_true rfl⟩) (PB.preV (ci := 1) (q0 := 7) hKU hP hD [7] rfl rfl rfl rfl) rfl rfl hl.1 rfl (lv_room (Nat.le_of_ble_eq_true rfl)) dX4_count_10 ⟨Nat.zero_le _, Nat.zero_le _⟩) hS hP hD hA [7] rfl rfl (by first | (simp only [wset, List.set_cons_zero, List.set_cons_succ]; done) | rfl) rfl (fun H locs hP hD hS => ?_)
  have hres := Option.some.inj hsp
  subst hres
  exact W.iret (v := r4) hx hb hr (fun t ht hW => ⟨⟨r4, (), rfl, rfl, P_at ht hP⟩, hS.F ht⟩) hS.2.2 dX4_count_13

theorem nd_X4_didFill : yX4_didFill.cls = RX4 ∧ yX4_didFill.cls ≠ "java/lang/invoke/MethodHandle" ∧ yX4_didFill.cls ≠ "java/lang/invoke/VarHandle" ∧ (parseMethodDescriptor yX4_didFill.desc).map (fun d => d.parameters.length) = some 1 := by decide +kernel
set_option maxHeartbeats 8000000 in
set_option maxRecDepth 100000 in
theorem k_X4_didFill (l : Launch) (D : va_G) (cI cZ cC cS : ClassId) (sz : Nat) (a0 a1 a3 a22 a23 : Nat) (w0_1 : Value) (w0_2 : Value) (w0_3 : Value) (w0_4 : Value) (w0_5 : Value) (w0_6 : Value) (w1_0 : Value) (w1_2 : Value) (w1_3 : Value) (w1_4 : Value) (w1_5 : Value) (g1_6 : Int32) (w1_7 : Value) (w1_8 : Value) (w1_9 : Value) (w1_10 : Value) (w1_11 : Value) (f3 : Nat → Int32) (w22_0 : Value) (g22_1 : Int32) (w22_2 : Value) (w22_3 : Value) (f23 : Nat → Int32) (res : Int32 × Int32 × (Nat → Int32)) (hsp : s_X4_didFill g1_6 f3 g22_1 f23 = some res) : Met l yX4_didFill wsX4_didFill ({ frames := 3, cells := 0, slots := 0, locals := 68 }) (va_Pc [.ref a0, .ref a22] (PB D cI cZ cC cS [(a0, .inr (4, [.ref a1, w0_1, w0_2, w0_3, w0_4, w0_5, w0_6])), (a1, .inr (2, [w1_0, .ref a3, w1_2, w1_3, w1_4, w1_5, .int g1_6, w1_7, w1_8, w1_9, w1_10, w1_11])), (a3, .inl (cI, 36, .inl f3)), (a22, .inr (3, [w22_0, .int g22_1, w22_2, w22_3, .ref a23])), (a23, .inl (cI, 4, .inl f23))] sz)) (va_Qi (fun r (_ : Unit) => r = res.1 ∧ (res.1 = 0 ∨ res.1 = 1)) (fun _ t => va_P D vwCl [(a0, .inr (4, [.ref a1, w0_1, w0_2, w0_3, w0_4, w0_5, w0_6])), (a1, .inr (2, [w1_0, .ref a3, w1_2, w1_3, w1_4, w1_5, .int res.2.1, w1_7, w1_8, w1_9, w1_10, w1_11])), (a3, .inl (cI, 36, .inl res.2.2)), (a22, .inr (3, [w22_0, .int g22_1, w22_2, w22_3, .ref a23])), (a23, .inl (cI, 4, .inl f23))] t.heap) (va_A [(a0, .inr (4, [.ref a1, w0_1, w0_2, w0_3, w0_4, w0_5, w0_6])), (a1, .inr (2, [w1_0, .ref a3, w1_2, w1_3, w1_4, w1_5, .int g1_6, w1_7, w1_8, w1_9, w1_10, w1_11])), (a3, .inl (cI, 36, .inl f3)), (a22, .inr (3, [w22_0, .int g22_1, w22_2, w22_3, .ref a23])), (a23, .inl (cI, 4, .inl f23))] sz)) 0 0 (va_A [(a0, .inr (4, [.ref a1, w0_1, w0_2, w0_3, w0_4, w0_5, w0_6])), (a1, .inr (2, [w1_0, .ref a3, w1_2, w1_3, w1_4, w1_5, .int g1_6, w1_7, w1_8, w1_9, w1_10, w1_11])), (a3, .inl (cI, 36, .inl f3)), (a22, .inr (3, [w22_0, .int g22_1, w22_2, w22_3, .ref a23])), (a23, .inl (cI, 4, .inl f23))] sz) := by
  refine Met.ofW (cc := cX4_didFill) (maxL := 5) (ret := (some .boolean)) (by decide) rfl ?_
  intro p e s m args below meth c s₁ B hml hv
  obtain ⟨rfl, hsz, hP, hD0, hKU⟩ := hv
  have hx := B.exec
  have hb := B.bytes
  have hr := B.returns
  have hts := atoms_spec (ws := wsX4_didFill) B.pre
  have hown : s.vm.findClass RX4 = some m.cls := findClass_of_methodNamed B.named
  have hlocks := B.notSynchronized
  have hK := hKU.1
  have hi_X3 : ∀ w ∈ u_ws RX3 TX3 5, w ∈ wsX4_didFill := by decide +kernel
  have hf_12 := hts (.fieldLink RX4 12 "ThinnedPots" "studio" "LThinnedPots$Studio;") (by decide +kernel)
  have hi_X4 : ∀ w ∈ u_ws RX4 TX4 7, w ∈ wsX4_didFill := by decide +kernel
  subst hsz
  have hD := hD0.self (sz := s.heap.size)
  generalize hAe : va_A [(a0, .inr (4, [.ref a1, w0_1, w0_2, w0_3, w0_4, w0_5, w0_6])), (a1, .inr (2, [w1_0, .ref a3, w1_2, w1_3, w1_4, w1_5, .int g1_6, w1_7, w1_8, w1_9, w1_10, w1_11])), (a3, .inl (cI, 36, .inl f3)), (a22, .inr (3, [w22_0, .int g22_1, w22_2, w22_3, .ref a23])), (a23, .inl (cI, 4, .inl f23))] s.heap.size = A at hD ⊢
  have hA : ∀ q : Nat, s.heap.size ≤ q → A q := fun q h => by rw [← hAe]; exact Or.inr h
  have hP : va_P D vwCl [(a0, .inr (4, [.ref a1, w0_1, w0_2, w0_3, w0_4, w0_5, w0_6])), (a1, .inr (2, [w1_0, .ref a3, w1_2, w1_3, w1_4, w1_5, .int g1_6, w1_7, w1_8, w1_9, w1_10, w1_11])), (a3, .inl (cI, 36, .inl f3)), (a22, .inr (3, [w22_0, .int g22_1, w22_2, w22_3, .ref a23])), (a23, .inl (cI, 4, .inl f23))] s.heap := hP
  generalize hHe : s.heap = H at hP ⊢
  have hS : va_S A s.heap H [] := by rw [hHe]; exact va_S.rf
  have hl := lv_entry ([.ref a0, .ref a22]) (n := 5) (Nat.le_of_ble_eq_true rfl)
  rw [lg_entry_eq]
  generalize (lg_sl ([.ref a0, .ref a22]) ++ List.replicate (5 - (lg_sl ([.ref a0, .ref a22])).length) Slot.unset).toArray = ls at hl ⊢
  have hl : lv_has ls 5 [(0, .ref a0), (1, .ref a22)] := hl
  unfold s_X4_didFill at hsp
  refine lv_iconst (v := 0) hx hb dX4_didFill_0 (by decide) ?_
  refine lv_istore_n (lv' := [(2, .int 0), (0, .ref a0), (1, .ref a22)]) hx hb dX4_didFill_1 rfl hl (by decide) rfl (fun ls hl => ?_)
  refine lv_iconst (v := 0) hx hb dX4_didFill_2 (by decide) ?_
  refine lv_istore_n (lv' := [(3, .int 0), (2, .int 0), (0, .ref a0), (1, .ref a22)]) hx hb dX4_didFill_3 rfl hl (by decide) rfl (fun ls hl => ?_)
  refine ex_rule (D := D) (K := s_X4_didFill_X1) (P := fun (t1 : Int32 × Int32 × (Nat → Int32)) => [(a0, .inr (4, [.ref a1, w0_1, w0_2, w0_3, w0_4, w0_5, w0_6])), (a1, .inr (2, [w1_0, .ref a3, w1_2, w1_3, w1_4, w1_5, .int t1.2.1, w1_7, w1_8, w1_9, w1_10, w1_11])), (a3, .inl (cI, 36, .inl t1.2.2)), (a22, .inr (3, [w22_0, .int g22_1, w22_2, w22_3, .ref a23])), (a23, .inl (cI, 4, .inl f23))]) (L := fun (t1 : Int32 × Int32 × (Nat → Int32)) => [(2, .int t1.1)]) (nL := 5) (pcx := 49) (res := res) (A := A) (H0 := s.heap) ?_ (fun hx1 => ?_)
  · intro t1 H locs hsp hP hD hS ls hl
    obtain ⟨x5, x6, y7⟩ := t1
    unfold s_X4_didFill_X1 at hsp; try dsimp only at hsp
    have hP : va_P D vwCl [(a0, .inr (4, [.ref a1, w0_1, w0_2, w0_3, w0_4, w0_5, w0_6])), (a1, .inr (2, [w1_0, .ref a3, w1_2, w1_3, w1_4, w1_5, .int x6, w1_7, w1_8, w1_9, w1_10, w1_11])), (a3, .inl (cI, 36, .inl y7)), (a22, .inr (3, [w22_0, .int g22_1, w22_2, w22_3, .ref a23])), (a23, .inl (cI, 4, .inl f23))] H := hP
    have hD : va_D A [(a0, .inr (4, [.ref a1, w0_1, w0_2, w0_3, w0_4, w0_5, w0_6])), (a1, .inr (2, [w1_0, .ref a3, w1_2, w1_3, w1_4, w1_5, .int x6, w1_7, w1_8, w1_9, w1_10, w1_11])), (a3, .inl (cI, 36, .inl y7)), (a22, .inr (3, [w22_0, .int g22_1, w22_2, w22_3, .ref a23])), (a23, .inl (cI, 4, .inl f23))] := hD
    have hl : lv_has ls 5 [(2, .int x5)] := hl
    refine lv_iload_n hx hb dX4_didFill_49 rfl (lv_at hl 0 rfl) ?_
    obtain ⟨hz8, hsp⟩ := zckE hsp
    have hres := Option.some.inj hsp
    subst hres
    exact W.zret (v := x5) hx hb hr (zE hz8) (fun t ht hW => ⟨⟨x5, (), rfl, ⟨rfl, hz8⟩, P_at ht hP⟩, hS.F ht⟩) hS.2.2 dX4_didFill_50
  have hl := lv_sub hl (l' := [(0, .ref a0), (1, .ref a22), (2, .int 0), (3, .int 0)]) [2, 3, 1, 0] rfl
  refine lp_rule (D := D) (F := s_X4_didFill_L1 f23 g22_1 (s_X4_didFill_X1)) (P := fun (tv : Int32 × Int32 × Int32 × (Nat → Int32)) => [(a0, .inr (4, [.ref a1, w0_1, w0_2, w0_3, w0_4, w0_5, w0_6])), (a1, .inr (2, [w1_0, .ref a3, w1_2, w1_3, w1_4, w1_5, .int tv.2.2.1, w1_7, w1_8, w1_9, w1_10, w1_11])), (a3, .inl (cI, 36, .inl tv.2.2.2)), (a22, .inr (3, [w22_0, .int g22_1, w22_2, w22_3, .ref a23])), (a23, .inl (cI, 4, .inl f23))]) (L := fun (tv : Int32 × Int32 × Int32 × (Nat → Int32)) => [(0, .ref a0), (1, .ref a22), (2, .int tv.1), (3, .int tv.2.1)]) (nL := 5) (res := res) (A := A) (H0 := s.heap) (fun _ => rfl) ?_ 1000 (0, 0, g1_6, f3) _ _ hsp hP hD hS _ hl
  · intro n1 ih1 tv H locs hsp hP hD hS ls hl
    obtain ⟨x1, x2, x3, y4⟩ := tv
    have hsp : s_X4_didFill_B1  f23 g22_1 (s_X4_didFill_X1) (s_X4_didFill_L1 f23 g22_1 (s_X4_didFill_X1) n1) x1 x2 x3 y4 = some res := hsp
    unfold s_X4_didFill_B1 at hsp
    have hP : va_P D vwCl [(a0, .inr (4, [.ref a1, w0_1, w0_2, w0_3, w0_4, w0_5, w0_6])), (a1, .inr (2, [w1_0, .ref a3, w1_2, w1_3, w1_4, w1_5, .int x3, w1_7, w1_8, w1_9, w1_10, w1_11])), (a3, .inl (cI, 36, .inl y4)), (a22, .inr (3, [w22_0, .int g22_1, w22_2, w22_3, .ref a23])), (a23, .inl (cI, 4, .inl f23))] H := hP
    have hD : va_D A [(a0, .inr (4, [.ref a1, w0_1, w0_2, w0_3, w0_4, w0_5, w0_6])), (a1, .inr (2, [w1_0, .ref a3, w1_2, w1_3, w1_4, w1_5, .int x3, w1_7, w1_8, w1_9, w1_10, w1_11])), (a3, .inl (cI, 36, .inl y4)), (a22, .inr (3, [w22_0, .int g22_1, w22_2, w22_3, .ref a23])), (a23, .inl (cI, 4, .inl f23))] := hD
    have hl : lv_has ls 5 [(0, .ref a0), (1, .ref a22), (2, .int x1), (3, .int x2)] := hl
    refine lv_iload_n hx hb dX4_didFill_4 rfl (lv_at hl 3 rfl) ?_
    refine lv_iconst (v := 4) hx hb dX4_didFill_5 (by decide) ?_
    refine lv_icmp_ge (tgt := 49) hx hb dX4_didFill_6 (by decide) (fun c9 => ?_) (fun c9 => ?_)
    · have hsp := itT hsp c9
      exact hx1 (x1, x3, y4) _ _ hsp hP hD hS _ (lv_sub hl [2] rfl)
    have hsp := itF hsp c9
    refine lv_aload_n hx hb dX4_didFill_9 rfl (lv_at hl 1 rfl) ?_
    refine va_getN (D := D) (ci := 3) (v := .ref a23) (C := RX3) (T := TX3) (N := 5) hx hb hts hi_X3 hown hK hP 3 rfl rfl 4 (by decide) (fn_ThinnedPots_185 hKU.2.2) (fun _ h9 => h9) rfl dX4_didFill_10 ?_
    refine lv_iload_n hx hb dX4_didFill_13 rfl (lv_at hl 3 rfl) ?_
    obtain ⟨r10, hcr10, hsp⟩ := clE hsp
    refine call_i (w1 := [(a23, .inl (cI, 4, .inl f23))]) (ws' := [(a0, .inr (4, [.ref a1, w0_1, w0_2, w0_3, w0_4, w0_5, w0_6])), (a1, .inr (2, [w1_0, .ref a3, w1_2, w1_3, w1_4, w1_5, .int x3, w1_7, w1_8, w1_9, w1_10, w1_11])), (a3, .inl (cI, 36, .inl y4)), (a22, .inr (3, [w22_0, .int g22_1, w22_2, w22_3, .ref a23])), (a23, .inl (cI, 4, .inl f23))]) (va_runS (As := [.ref a23, .int x2]) (rest := []) ⟨hx, hb, hml, hown, hts⟩ (k_X4_at l D cI cZ cC cS H.size a23 4 f23 x2 r10 hcr10) (va_cwS 2 hts gX4_didFill_X4_at rfl rfl rfl nd_X4_at.2 ⟨Nat.le_of_ble_eq_true rfl, Nat.le_of_ble_eq_true rfl⟩) (PB.preS hKU hP hD [4] rfl rfl) rfl rfl hl.1 rfl (lv_room (Nat.le_of_ble_eq_true rfl)) dX4_didFill_14 ⟨Nat.zero_le _, Nat.zero_le _⟩) hS hP hD hA [4] rfl rfl (by first | (simp only [wset, List.set_cons_zero, List.set_cons_succ]; done) | rfl) rfl (fun H locs hP hD hS => ?_)
    refine lv_istore (lv' := [(4, .int r10), (0, .ref a0), (1, .ref a22), (2, .int x1), (3, .int x2)]) hx hb dX4_didFill_17 hl (by decide) rfl (fun ls hl => ?_)
    refine lv_iload hx hb dX4_didFill_19 (lv_at hl 0 rfl) ?_
    refine lv_if_le (tgt := 43) hx hb dX4_didFill_21 (by decide) (fun c11 => ?_) (fun c11 => ?_)
    · have hsp := itT hsp c11
      obtain ⟨x12, ex12, hsp⟩ := nmE hsp
      refine lv_iinc (k := 4) (v := x12) (lv' := [(3, .int x12), (4, .int r10), (0, .ref a0), (1, .ref a22), (2, .int x1)]) hx hb dX4_didFill_43 hl rfl (by rw [ex12]; rfl) (by decide) rfl (fun ls hl => ?_)
      refine lv_goto (tgt := 4) hx hb dX4_didFill_46 (by decide) ?_
      exact ih1 (x1, x12, x3, y4) _ _ hsp hP hD hS _ (lv_sub hl [2, 3, 4, 0] rfl)
    have hsp := itF hsp c11
    refine lv_aload_n hx hb dX4_didFill_24 rfl (lv_at hl 1 rfl) ?_
    refine va_get (D := D) (ci := 4) (v := .ref a1) (C := RX4) (T := TX4) (N := 7) hx hb hts hi_X4 hown hK hP 0 rfl rfl 0 (by decide) hf_12 (fun _ h9 => h9) rfl dX4_didFill_25 ?_
    refine lv_aload_n hx hb dX4_didFill_28 rfl (lv_at hl 2 rfl) ?_
    refine va_getN (D := D) (ci := 3) (v := .int g22_1) (C := RX3) (T := TX3) (N := 5) hx hb hts hi_X3 hown hK hP 3 rfl rfl 1 (by decide) (fn_ThinnedPots_176 hKU.2.2) (fun _ h9 => h9) rfl dX4_didFill_29 ?_
    refine lv_iload_n hx hb dX4_didFill_32 rfl (lv_at hl 4 rfl) ?_
    refine lv_iload hx hb dX4_didFill_33 (lv_at hl 0 rfl) ?_
    obtain ⟨r13, hcr13, hsp⟩ := clE hsp
    refine call_i (w1 := [(a1, .inr (2, [w1_0, .ref a3, w1_2, w1_3, w1_4, w1_5, .int r13.2.1, w1_7, w1_8, w1_9, w1_10, w1_11])), (a3, .inl (cI, 36, .inl r13.2.2))]) (ws' := [(a0, .inr (4, [.ref a1, w0_1, w0_2, w0_3, w0_4, w0_5, w0_6])), (a1, .inr (2, [w1_0, .ref a3, w1_2, w1_3, w1_4, w1_5, .int r13.2.1, w1_7, w1_8, w1_9, w1_10, w1_11])), (a3, .inl (cI, 36, .inl r13.2.2)), (a22, .inr (3, [w22_0, .int g22_1, w22_2, w22_3, .ref a23])), (a23, .inl (cI, 4, .inl f23))]) (va_runV (As := [.int g22_1, .int x2, .int r10]) (rest := []) ⟨hx, hb, hml, hown, hts⟩ (k_X2_addDrops l D cI cZ cC cS H.size a1 a3 (w1_0) (w1_2) (w1_3) (w1_4) (w1_5) x3 (w1_7) (w1_8) (w1_9) (w1_10) (w1_11) y4 g22_1 x2 r10 r13 hcr13) (cwV 3 hts gX4_didFill_X2_addDrops rfl rfl rfl nd_X2_addDrops ⟨Nat.le_of_ble_eq_true rfl, Nat.le_of_ble_eq_true rfl⟩) (PB.preV (ci := 2) (q0 := 1) hKU hP hD [1, 2] rfl rfl rfl rfl) rfl rfl hl.1 rfl (lv_room (Nat.le_of_ble_eq_true rfl)) dX4_didFill_35 ⟨Nat.zero_le _, Nat.zero_le _⟩) hS hP hD hA [1, 2] rfl rfl (by first | (simp only [wset, List.set_cons_zero, List.set_cons_succ]; done) | rfl) rfl (fun H locs hP hD hS => ?_)
    refine lv_if_lt (tgt := 43) hx hb dX4_didFill_38 (by decide) (fun c14 => ?_) (fun c14 => ?_)
    · have hsp := itT hsp c14
      obtain ⟨x15, ex15, hsp⟩ := nmE hsp
      refine lv_iinc (k := 4) (v := x15) (lv' := [(3, .int x15), (4, .int r10), (0, .ref a0), (1, .ref a22), (2, .int x1)]) hx hb dX4_didFill_43 hl rfl (by rw [ex15]; rfl) (by decide) rfl (fun ls hl => ?_)
      refine lv_goto (tgt := 4) hx hb dX4_didFill_46 (by decide) ?_
      exact ih1 (x1, x15, r13.2.1, r13.2.2) _ _ hsp hP hD hS _ (lv_sub hl [2, 3, 4, 0] rfl)
    have hsp := itF hsp c14
    refine lv_iconst (v := 1) hx hb dX4_didFill_41 (by decide) ?_
    refine lv_istore_n (lv' := [(2, .int 1), (4, .int r10), (0, .ref a0), (1, .ref a22), (3, .int x2)]) hx hb dX4_didFill_42 rfl hl (by decide) rfl (fun ls hl => ?_)
    obtain ⟨x16, ex16, hsp⟩ := nmE hsp
    refine lv_iinc (k := 4) (v := x16) (lv' := [(3, .int x16), (2, .int 1), (4, .int r10), (0, .ref a0), (1, .ref a22)]) hx hb dX4_didFill_43 hl rfl (by rw [ex16]; rfl) (by decide) rfl (fun ls hl => ?_)
    refine lv_goto (tgt := 4) hx hb dX4_didFill_46 (by decide) ?_
    exact ih1 (1, x16, r13.2.1, r13.2.2) _ _ hsp hP hD hS _ (lv_sub hl [3, 4, 1, 0] rfl)

theorem nd_X4_didWork : yX4_didWork.cls = RX4 ∧ yX4_didWork.cls ≠ "java/lang/invoke/MethodHandle" ∧ yX4_didWork.cls ≠ "java/lang/invoke/VarHandle" ∧ (parseMethodDescriptor yX4_didWork.desc).map (fun d => d.parameters.length) = some 1 := by decide +kernel
set_option maxHeartbeats 8000000 in
set_option maxRecDepth 100000 in
theorem k_X4_didWork (l : Launch) (D : va_G) (cI cZ cC cS : ClassId) (sz : Nat) (a0 a1 a2 a3 a4 a5 a6 a7 a8 a9 a22 a23 : Nat) (w0_1 : Value) (w0_2 : Value) (w0_3 : Value) (w0_4 : Value) (w0_5 : Value) (w0_6 : Value) (g1_6 : Int32) (g1_7 : Int32) (g1_8 : Int32) (g1_9 : Int32) (f2 : Nat → Int32) (f3 : Nat → Int32) (f4 : Nat → Int32) (f5 : Nat → Int32) (f6 : Nat → Int32) (f7 : Nat → Int32) (f8 : Nat → Int32) (f9 : Nat → Int32) (g22_0 : Int32) (g22_1 : Int32) (g22_2 : Int32) (g22_3 : Int32) (f23 : Nat → Int32) (res : Int32 × Int32 × Int32 × Int32 × Int32 × (Nat → Int32) × (Nat → Int32) × (Nat → Int32) × (Nat → Int32) × (Nat → Int32) × (Nat → Int32)) (hsp : s_X4_didWork g1_6 g1_7 g1_8 g1_9 f2 f3 f4 f5 f6 f7 f8 f9 g22_0 g22_1 g22_2 g22_3 f23 = some res) : Met l yX4_didWork wsX4_didWork ({ frames := 5, cells := 0, slots := 0, locals := 119 }) (va_Pc [.ref a0, .ref a22] (PB D cI cZ cC cS [(a0, .inr (4, [.ref a1, w0_1, w0_2, w0_3, w0_4, w0_5, w0_6])), (a1, .inr (2, [.ref a2, .ref a3, .ref a4, .ref a5, .ref a6, .ref a7, .int g1_6, .int g1_7, .int g1_8, .int g1_9, .ref a8, .ref a9])), (a2, .inl (cI, 2, .inl f2)), (a3, .inl (cI, 36, .inl f3)), (a4, .inl (cI, 8, .inl f4)), (a5, .inl (cI, 18, .inl f5)), (a6, .inl (cI, 18, .inl f6)), (a7, .inl (cI, 6, .inl f7)), (a8, .inl (cI, 4, .inl f8)), (a9, .inl (cI, 4, .inl f9)), (a22, .inr (3, [.int g22_0, .int g22_1, .int g22_2, .int g22_3, .ref a23])), (a23, .inl (cI, 4, .inl f23))] sz)) (va_Qi (fun r (_ : Unit) => r = res.1 ∧ (res.1 = 0 ∨ res.1 = 1)) (fun _ t => va_P D vwCl [(a0, .inr (4, [.ref a1, w0_1, w0_2, w0_3, w0_4, w0_5, w0_6])), (a1, .inr (2, [.ref a2, .ref a3, .ref a4, .ref a5, .ref a6, .ref a7, .int res.2.1, .int res.2.2.1, .int res.2.2.2.1, .int res.2.2.2.2.1, .ref a8, .ref a9])), (a2, .inl (cI, 2, .inl f2)), (a3, .inl (cI, 36, .inl res.2.2.2.2.2.1)), (a4, .inl (cI, 8, .inl res.2.2.2.2.2.2.1)), (a5, .inl (cI, 18, .inl f5)), (a6, .inl (cI, 18, .inl res.2.2.2.2.2.2.2.1)), (a7, .inl (cI, 6, .inl res.2.2.2.2.2.2.2.2.1)), (a8, .inl (cI, 4, .inl res.2.2.2.2.2.2.2.2.2.1)), (a9, .inl (cI, 4, .inl res.2.2.2.2.2.2.2.2.2.2)), (a22, .inr (3, [.int g22_0, .int g22_1, .int g22_2, .int g22_3, .ref a23])), (a23, .inl (cI, 4, .inl f23))] t.heap) (va_A [(a0, .inr (4, [.ref a1, w0_1, w0_2, w0_3, w0_4, w0_5, w0_6])), (a1, .inr (2, [.ref a2, .ref a3, .ref a4, .ref a5, .ref a6, .ref a7, .int g1_6, .int g1_7, .int g1_8, .int g1_9, .ref a8, .ref a9])), (a2, .inl (cI, 2, .inl f2)), (a3, .inl (cI, 36, .inl f3)), (a4, .inl (cI, 8, .inl f4)), (a5, .inl (cI, 18, .inl f5)), (a6, .inl (cI, 18, .inl f6)), (a7, .inl (cI, 6, .inl f7)), (a8, .inl (cI, 4, .inl f8)), (a9, .inl (cI, 4, .inl f9)), (a22, .inr (3, [.int g22_0, .int g22_1, .int g22_2, .int g22_3, .ref a23])), (a23, .inl (cI, 4, .inl f23))] sz)) 0 0 (va_A [(a0, .inr (4, [.ref a1, w0_1, w0_2, w0_3, w0_4, w0_5, w0_6])), (a1, .inr (2, [.ref a2, .ref a3, .ref a4, .ref a5, .ref a6, .ref a7, .int g1_6, .int g1_7, .int g1_8, .int g1_9, .ref a8, .ref a9])), (a2, .inl (cI, 2, .inl f2)), (a3, .inl (cI, 36, .inl f3)), (a4, .inl (cI, 8, .inl f4)), (a5, .inl (cI, 18, .inl f5)), (a6, .inl (cI, 18, .inl f6)), (a7, .inl (cI, 6, .inl f7)), (a8, .inl (cI, 4, .inl f8)), (a9, .inl (cI, 4, .inl f9)), (a22, .inr (3, [.int g22_0, .int g22_1, .int g22_2, .int g22_3, .ref a23])), (a23, .inl (cI, 4, .inl f23))] sz) := by
  refine Met.ofW (cc := cX4_didWork) (maxL := 2) (ret := (some .boolean)) (by decide) rfl ?_
  intro p e s m args below meth c s₁ B hml hv
  obtain ⟨rfl, hsz, hP, hD0, hKU⟩ := hv
  have hx := B.exec
  have hb := B.bytes
  have hr := B.returns
  have hts := atoms_spec (ws := wsX4_didWork) B.pre
  have hown : s.vm.findClass RX4 = some m.cls := findClass_of_methodNamed B.named
  have hlocks := B.notSynchronized
  have hK := hKU.1
  have hi_X3 : ∀ w ∈ u_ws RX3 TX3 5, w ∈ wsX4_didWork := by decide +kernel
  have hf_12 := hts (.fieldLink RX4 12 "ThinnedPots" "studio" "LThinnedPots$Studio;") (by decide +kernel)
  have hi_X4 : ∀ w ∈ u_ws RX4 TX4 7, w ∈ wsX4_didWork := by decide +kernel
  subst hsz
  have hD := hD0.self (sz := s.heap.size)
  generalize hAe : va_A [(a0, .inr (4, [.ref a1, w0_1, w0_2, w0_3, w0_4, w0_5, w0_6])), (a1, .inr (2, [.ref a2, .ref a3, .ref a4, .ref a5, .ref a6, .ref a7, .int g1_6, .int g1_7, .int g1_8, .int g1_9, .ref a8, .ref a9])), (a2, .inl (cI, 2, .inl f2)), (a3, .inl (cI, 36, .inl f3)), (a4, .inl (cI, 8, .inl f4)), (a5, .inl (cI, 18, .inl f5)), (a6, .inl (cI, 18, .inl f6)), (a7, .inl (cI, 6, .inl f7)), (a8, .inl (cI, 4, .inl f8)), (a9, .inl (cI, 4, .inl f9)), (a22, .inr (3, [.int g22_0, .int g22_1, .int g22_2, .int g22_3, .ref a23])), (a23, .inl (cI, 4, .inl f23))] s.heap.size = A at hD ⊢
  have hA : ∀ q : Nat, s.heap.size ≤ q → A q := fun q h => by rw [← hAe]; exact Or.inr h
  have hP : va_P D vwCl [(a0, .inr (4, [.ref a1, w0_1, w0_2, w0_3, w0_4, w0_5, w0_6])), (a1, .inr (2, [.ref a2, .ref a3, .ref a4, .ref a5, .ref a6, .ref a7, .int g1_6, .int g1_7, .int g1_8, .int g1_9, .ref a8, .ref a9])), (a2, .inl (cI, 2, .inl f2)), (a3, .inl (cI, 36, .inl f3)), (a4, .inl (cI, 8, .inl f4)), (a5, .inl (cI, 18, .inl f5)), (a6, .inl (cI, 18, .inl f6)), (a7, .inl (cI, 6, .inl f7)), (a8, .inl (cI, 4, .inl f8)), (a9, .inl (cI, 4, .inl f9)), (a22, .inr (3, [.int g22_0, .int g22_1, .int g22_2, .int g22_3, .ref a23])), (a23, .inl (cI, 4, .inl f23))] s.heap := hP
  generalize hHe : s.heap = H at hP ⊢
  have hS : va_S A s.heap H [] := by rw [hHe]; exact va_S.rf
  have hl := lv_entry ([.ref a0, .ref a22]) (n := 2) (Nat.le_of_ble_eq_true rfl)
  rw [lg_entry_eq]
  generalize (lg_sl ([.ref a0, .ref a22]) ++ List.replicate (2 - (lg_sl ([.ref a0, .ref a22])).length) Slot.unset).toArray = ls at hl ⊢
  have hl : lv_has ls 2 [(0, .ref a0), (1, .ref a22)] := hl
  unfold s_X4_didWork at hsp
  refine lv_aload_n hx hb dX4_didWork_0 rfl (lv_at hl 1 rfl) ?_
  refine lv_ifnonnull (tgt := 6) hx hb dX4_didWork_1 (by decide) ?_
  refine lv_aload_n hx hb dX4_didWork_6 rfl (lv_at hl 1 rfl) ?_
  refine va_getN (D := D) (ci := 3) (v := .int g22_0) (C := RX3) (T := TX3) (N := 5) hx hb hts hi_X3 hown hK hP 10 rfl rfl 0 (by decide) (fn_ThinnedPots_168 hKU.2.2) (fun _ h9 => h9) rfl dX4_didWork_7 ?_
  by_cases c1 : g22_0 = 33
  · have hsp := itT hsp c1
    refine lv_lookup (off := 64) (tgt := 74) hx hb dX4_didWork_10 (by decide) (by rw [c1]; decide) (by decide) ?_
    refine lv_aload_n hx hb dX4_didWork_74 rfl (lv_at hl 0 rfl) ?_
    refine va_get (D := D) (ci := 4) (v := .ref a1) (C := RX4) (T := TX4) (N := 7) hx hb hts hi_X4 hown hK hP 0 rfl rfl 0 (by decide) hf_12 (fun _ h9 => h9) rfl dX4_didWork_75 ?_
    refine lv_aload_n hx hb dX4_didWork_78 rfl (lv_at hl 1 rfl) ?_
    refine va_getN (D := D) (ci := 3) (v := .int g22_1) (C := RX3) (T := TX3) (N := 5) hx hb hts hi_X3 hown hK hP 10 rfl rfl 1 (by decide) (fn_ThinnedPots_176 hKU.2.2) (fun _ h9 => h9) rfl dX4_didWork_79 ?_
    obtain ⟨r2, hcr2, hsp⟩ := clE hsp
    refine call_i (w1 := [(a1, .inr (2, [.ref a2, .ref a3, .ref a4, .ref a5, .ref a6, .ref a7, .int r2.2.1, .int g1_7, .int g1_8, .int g1_9, .ref a8, .ref a9])), (a3, .inl (cI, 36, .inl r2.2.2.1)), (a4, .inl (cI, 8, .inl r2.2.2.2))]) (ws' := [(a0, .inr (4, [.ref a1, w0_1, w0_2, w0_3, w0_4, w0_5, w0_6])), (a1, .inr (2, [.ref a2, .ref a3, .ref a4, .ref a5, .ref a6, .ref a7, .int r2.2.1, .int g1_7, .int g1_8, .int g1_9, .ref a8, .ref a9])), (a2, .inl (cI, 2, .inl f2)), (a3, .inl (cI, 36, .inl r2.2.2.1)), (a4, .inl (cI, 8, .inl r2.2.2.2)), (a5, .inl (cI, 18, .inl f5)), (a6, .inl (cI, 18, .inl f6)), (a7, .inl (cI, 6, .inl f7)), (a8, .inl (cI, 4, .inl f8)), (a9, .inl (cI, 4, .inl f9)), (a22, .inr (3, [.int g22_0, .int g22_1, .int g22_2, .int g22_3, .ref a23])), (a23, .inl (cI, 4, .inl f23))]) (va_runV (As := [.int g22_1]) (rest := []) ⟨hx, hb, hml, hown, hts⟩ (k_X2_thinPot l D cI cZ cC cS H.size a1 a3 a4 (.ref a2) (.ref a5) (.ref a6) (.ref a7) g1_6 (.int g1_7) (.int g1_8) (.int g1_9) (.ref a8) (.ref a9) f3 f4 g22_1 r2 hcr2) (cwV 1 hts gX4_didWork_X2_thinPot rfl rfl rfl nd_X2_thinPot ⟨Nat.le_of_ble_eq_true rfl, Nat.le_of_ble_eq_true rfl⟩) (PB.preV (ci := 2) (q0 := 1) hKU hP hD [1, 3, 4] rfl rfl rfl rfl) rfl rfl hl.1 rfl (lv_room (Nat.le_of_ble_eq_true rfl)) dX4_didWork_82 ⟨Nat.zero_le _, Nat.zero_le _⟩) hS hP hD hA [1, 3, 4] rfl rfl (by first | (simp only [wset, List.set_cons_zero, List.set_cons_succ]; done) | rfl) rfl (fun H locs hP hD hS => ?_)
    refine lv_if_lt (tgt := 92) hx hb dX4_didWork_85 (by decide) (fun c3 => ?_) (fun c3 => ?_)
    · have hsp := itT hsp c3
      refine lv_iconst (v := 0) hx hb dX4_didWork_92 (by decide) ?_
      have hres := Option.some.inj hsp
      subst hres
      exact W.zret (v := 0) hx hb hr (zE (Or.inl rfl)) (fun t ht hW => ⟨⟨0, (), rfl, ⟨rfl, (Or.inl rfl)⟩, P_at ht hP⟩, hS.F ht⟩) hS.2.2 dX4_didWork_93
    have hsp := itF hsp c3
    refine lv_iconst (v := 1) hx hb dX4_didWork_88 (by decide) ?_
    refine lv_goto (tgt := 93) hx hb dX4_didWork_89 (by decide) ?_
    have hres := Option.some.inj hsp
    subst hres
    exact W.zret (v := 1) hx hb hr (zE (Or.inr rfl)) (fun t ht hW => ⟨⟨1, (), rfl, ⟨rfl, (Or.inr rfl)⟩, P_at ht hP⟩, hS.F ht⟩) hS.2.2 dX4_didWork_93
  have hsp := itF hsp c1
  by_cases c4 : g22_0 = 43
  · have hsp := itT hsp c4
    refine lv_lookup (off := 58) (tgt := 68) hx hb dX4_didWork_10 (by decide) (by rw [c4]; decide) (by decide) ?_
    refine lv_aload_n hx hb dX4_didWork_68 rfl (lv_at hl 0 rfl) ?_
    refine lv_aload_n hx hb dX4_didWork_69 rfl (lv_at hl 1 rfl) ?_
    obtain ⟨r5, hcr5, hsp⟩ := clE hsp
    refine call_z (w1 := [(a0, .inr (4, [.ref a1, w0_1, w0_2, w0_3, w0_4, w0_5, w0_6])), (a1, .inr (2, [.ref a2, .ref a3, .ref a4, .ref a5, .ref a6, .ref a7, .int r5.2.1, .int g1_7, .int g1_8, .int g1_9, .ref a8, .ref a9])), (a3, .inl (cI, 36, .inl r5.2.2)), (a22, .inr (3, [.int g22_0, .int g22_1, .int g22_2, .int g22_3, .ref a23])), (a23, .inl (cI, 4, .inl f23))]) (ws' := [(a0, .inr (4, [.ref a1, w0_1, w0_2, w0_3, w0_4, w0_5, w0_6])), (a1, .inr (2, [.ref a2, .ref a3, .ref a4, .ref a5, .ref a6, .ref a7, .int r5.2.1, .int g1_7, .int g1_8, .int g1_9, .ref a8, .ref a9])), (a2, .inl (cI, 2, .inl f2)), (a3, .inl (cI, 36, .inl r5.2.2)), (a4, .inl (cI, 8, .inl f4)), (a5, .inl (cI, 18, .inl f5)), (a6, .inl (cI, 18, .inl f6)), (a7, .inl (cI, 6, .inl f7)), (a8, .inl (cI, 4, .inl f8)), (a9, .inl (cI, 4, .inl f9)), (a22, .inr (3, [.int g22_0, .int g22_1, .int g22_2, .int g22_3, .ref a23])), (a23, .inl (cI, 4, .inl f23))]) (va_runV (As := [.ref a22]) (rest := []) ⟨hx, hb, hml, hown, hts⟩ (k_X4_didFill l D cI cZ cC cS H.size a0 a1 a3 a22 a23 (w0_1) (w0_2) (w0_3) (w0_4) (w0_5) (w0_6) (.ref a2) (.ref a4) (.ref a5) (.ref a6) (.ref a7) g1_6 (.int g1_7) (.int g1_8) (.int g1_9) (.ref a8) (.ref a9) f3 (.int g22_0) g22_1 (.int g22_2) (.int g22_3) f23 r5 hcr5) (cwV 1 hts gX4_didWork_X4_didFill rfl rfl rfl nd_X4_didFill ⟨Nat.le_of_ble_eq_true rfl, Nat.le_of_ble_eq_true rfl⟩) (PB.preV (ci := 4) (q0 := 0) hKU hP hD [0, 1, 3, 10, 11] rfl rfl rfl rfl) rfl rfl hl.1 rfl (lv_room (Nat.le_of_ble_eq_true rfl)) dX4_didWork_70 ⟨Nat.zero_le _, Nat.zero_le _⟩) hS hP hD hA [0, 1, 3, 10, 11] rfl rfl (by first | (simp only [wset, List.set_cons_zero, List.set_cons_succ]; done) | rfl) rfl (fun H locs hP hD hS hzr5 => ?_)
    have hres := Option.some.inj hsp
    subst hres
    exact W.zret (v := r5.1) hx hb hr (zE hzr5) (fun t ht hW => ⟨⟨r5.1, (), rfl, ⟨rfl, hzr5⟩, P_at ht hP⟩, hS.F ht⟩) hS.2.2 dX4_didWork_73
  have hsp := itF hsp c4
  by_cases c6 : g22_0 = 62
  · have hsp := itT hsp c6
    refine lv_lookup (off := 84) (tgt := 94) hx hb dX4_didWork_10 (by decide) (by rw [c6]; decide) (by decide) ?_
    refine lv_aload_n hx hb dX4_didWork_94 rfl (lv_at hl 0 rfl) ?_
    refine va_get (D := D) (ci := 4) (v := .ref a1) (C := RX4) (T := TX4) (N := 7) hx hb hts hi_X4 hown hK hP 0 rfl rfl 0 (by decide) hf_12 (fun _ h9 => h9) rfl dX4_didWork_95 ?_
    refine lv_aload_n hx hb dX4_didWork_98 rfl (lv_at hl 1 rfl) ?_
    refine va_getN (D := D) (ci := 3) (v := .int g22_1) (C := RX3) (T := TX3) (N := 5) hx hb hts hi_X3 hown hK hP 10 rfl rfl 1 (by decide) (fn_ThinnedPots_176 hKU.2.2) (fun _ h9 => h9) rfl dX4_didWork_99 ?_
    refine lv_aload_n hx hb dX4_didWork_102 rfl (lv_at hl 1 rfl) ?_
    refine va_getN (D := D) (ci := 3) (v := .int g22_2) (C := RX3) (T := TX3) (N := 5) hx hb hts hi_X3 hown hK hP 10 rfl rfl 2 (by decide) (fn_ThinnedPots_179 hKU.2.2) (fun _ h9 => h9) rfl dX4_didWork_103 ?_
    refine lv_aload_n hx hb dX4_didWork_106 rfl (lv_at hl 1 rfl) ?_
    refine va_getN (D := D) (ci := 3) (v := .int g22_3) (C := RX3) (T := TX3) (N := 5) hx hb hts hi_X3 hown hK hP 10 rfl rfl 3 (by decide) (fn_ThinnedPots_182 hKU.2.2) (fun _ h9 => h9) rfl dX4_didWork_107 ?_
    obtain ⟨r7, hcr7, hsp⟩ := clE hsp
    refine call_i (w1 := [(a1, .inr (2, [.ref a2, .ref a3, .ref a4, .ref a5, .ref a6, .ref a7, .int g1_6, .int g1_7, .int g1_8, .int g1_9, .ref a8, .ref a9])), (a3, .inl (cI, 36, .inl r7.2.1)), (a8, .inl (cI, 4, .inl r7.2.2.1)), (a9, .inl (cI, 4, .inl r7.2.2.2))]) (ws' := [(a0, .inr (4, [.ref a1, w0_1, w0_2, w0_3, w0_4, w0_5, w0_6])), (a1, .inr (2, [.ref a2, .ref a3, .ref a4, .ref a5, .ref a6, .ref a7, .int g1_6, .int g1_7, .int g1_8, .int g1_9, .ref a8, .ref a9])), (a2, .inl (cI, 2, .inl f2)), (a3, .inl (cI, 36, .inl r7.2.1)), (a4, .inl (cI, 8, .inl f4)), (a5, .inl (cI, 18, .inl f5)), (a6, .inl (cI, 18, .inl f6)), (a7, .inl (cI, 6, .inl f7)), (a8, .inl (cI, 4, .inl r7.2.2.1)), (a9, .inl (cI, 4, .inl r7.2.2.2)), (a22, .inr (3, [.int g22_0, .int g22_1, .int g22_2, .int g22_3, .ref a23])), (a23, .inl (cI, 4, .inl f23))]) (va_runV (As := [.int g22_1, .int g22_2, .int g22_3]) (rest := []) ⟨hx, hb, hml, hown, hts⟩ (k_X2_pourOver l D cI cZ cC cS H.size a1 a3 a8 a9 (.ref a2) (.ref a4) (.ref a5) (.ref a6) (.ref a7) (.int g1_6) (.int g1_7) (.int g1_8) (.int g1_9) f3 f8 f9 g22_1 g22_2 g22_3 r7 hcr7) (cwV 3 hts gX4_didWork_X2_pourOver rfl rfl rfl nd_X2_pourOver ⟨Nat.le_of_ble_eq_true rfl, Nat.le_of_ble_eq_true rfl⟩) (PB.preV (ci := 2) (q0 := 1) hKU hP hD [1, 3, 8, 9] rfl rfl rfl rfl) rfl rfl hl.1 rfl (lv_room (Nat.le_of_ble_eq_true rfl)) dX4_didWork_110 ⟨Nat.zero_le _, Nat.zero_le _⟩) hS hP hD hA [1, 3, 8, 9] rfl rfl (by first | (simp only [wset, List.set_cons_zero, List.set_cons_succ]; done) | rfl) rfl (fun H locs hP hD hS => ?_)
    refine lv_if_lt (tgt := 120) hx hb dX4_didWork_113 (by decide) (fun c8 => ?_) (fun c8 => ?_)
    · have hsp := itT hsp c8
      refine lv_iconst (v := 0) hx hb dX4_didWork_120 (by decide) ?_
      have hres := Option.some.inj hsp
      subst hres
      exact W.zret (v := 0) hx hb hr (zE (Or.inl rfl)) (fun t ht hW => ⟨⟨0, (), rfl, ⟨rfl, (Or.inl rfl)⟩, P_at ht hP⟩, hS.F ht⟩) hS.2.2 dX4_didWork_121
    have hsp := itF hsp c8
    refine lv_iconst (v := 1) hx hb dX4_didWork_116 (by decide) ?_
    refine lv_goto (tgt := 121) hx hb dX4_didWork_117 (by decide) ?_
    have hres := Option.some.inj hsp
    subst hres
    exact W.zret (v := 1) hx hb hr (zE (Or.inr rfl)) (fun t ht hW => ⟨⟨1, (), rfl, ⟨rfl, (Or.inr rfl)⟩, P_at ht hP⟩, hS.F ht⟩) hS.2.2 dX4_didWork_121
  have hsp := itF hsp c6
  by_cases c9 : g22_0 = 100
  · have hsp := itT hsp c9
    refine lv_lookup (off := 112) (tgt := 122) hx hb dX4_didWork_10 (by decide) (by rw [c9]; decide) (by decide) ?_
    refine lv_aload_n hx hb dX4_didWork_122 rfl (lv_at hl 0 rfl) ?_
    refine va_get (D := D) (ci := 4) (v := .ref a1) (C := RX4) (T := TX4) (N := 7) hx hb hts hi_X4 hown hK hP 0 rfl rfl 0 (by decide) hf_12 (fun _ h9 => h9) rfl dX4_didWork_123 ?_
    refine lv_aload_n hx hb dX4_didWork_126 rfl (lv_at hl 1 rfl) ?_
    refine va_getN (D := D) (ci := 3) (v := .int g22_1) (C := RX3) (T := TX3) (N := 5) hx hb hts hi_X3 hown hK hP 10 rfl rfl 1 (by decide) (fn_ThinnedPots_176 hKU.2.2) (fun _ h9 => h9) rfl dX4_didWork_127 ?_
    refine lv_aload_n hx hb dX4_didWork_130 rfl (lv_at hl 1 rfl) ?_
    refine va_getN (D := D) (ci := 3) (v := .int g22_3) (C := RX3) (T := TX3) (N := 5) hx hb hts hi_X3 hown hK hP 10 rfl rfl 3 (by decide) (fn_ThinnedPots_182 hKU.2.2) (fun _ h9 => h9) rfl dX4_didWork_131 ?_
    obtain ⟨r10, hcr10, hsp⟩ := clE hsp
    refine call_i (w1 := [(a1, .inr (2, [.ref a2, .ref a3, .ref a4, .ref a5, .ref a6, .ref a7, .int g1_6, .int g1_7, .int g1_8, .int g1_9, .ref a8, .ref a9])), (a3, .inl (cI, 36, .inl r10.2.1)), (a8, .inl (cI, 4, .inl r10.2.2.1)), (a9, .inl (cI, 4, .inl r10.2.2.2))]) (ws' := [(a0, .inr (4, [.ref a1, w0_1, w0_2, w0_3, w0_4, w0_5, w0_6])), (a1, .inr (2, [.ref a2, .ref a3, .ref a4, .ref a5, .ref a6, .ref a7, .int g1_6, .int g1_7, .int g1_8, .int g1_9, .ref a8, .ref a9])), (a2, .inl (cI, 2, .inl f2)), (a3, .inl (cI, 36, .inl r10.2.1)), (a4, .inl (cI, 8, .inl f4)), (a5, .inl (cI, 18, .inl f5)), (a6, .inl (cI, 18, .inl f6)), (a7, .inl (cI, 6, .inl f7)), (a8, .inl (cI, 4, .inl r10.2.2.1)), (a9, .inl (cI, 4, .inl r10.2.2.2)), (a22, .inr (3, [.int g22_0, .int g22_1, .int g22_2, .int g22_3, .ref a23])), (a23, .inl (cI, 4, .inl f23))]) (va_runV (As := [.int g22_1, .int g22_3]) (rest := []) ⟨hx, hb, hml, hown, hts⟩ (k_X2_dipBrush l D cI cZ cC cS H.size a1 a3 a8 a9 (.ref a2) (.ref a4) (.ref a5) (.ref a6) (.ref a7) (.int g1_6) (.int g1_7) (.int g1_8) (.int g1_9) f3 f8 f9 g22_1 g22_3 r10 hcr10) (cwV 2 hts gX4_didWork_X2_dipBrush rfl rfl rfl nd_X2_dipBrush ⟨Nat.le_of_ble_eq_true rfl, Nat.le_of_ble_eq_true rfl⟩) (PB.preV (ci := 2) (q0 := 1) hKU hP hD [1, 3, 8, 9] rfl rfl rfl rfl) rfl rfl hl.1 rfl (lv_room (Nat.le_of_ble_eq_true rfl)) dX4_didWork_134 ⟨Nat.zero_le _, Nat.zero_le _⟩) hS hP hD hA [1, 3, 8, 9] rfl rfl (by first | (simp only [wset, List.set_cons_zero, List.set_cons_succ]; done) | rfl) rfl (fun H locs hP hD hS => ?_)
    refine lv_if_lt (tgt := 144) hx hb dX4_didWork_137 (by decide) (fun c11 => ?_) (fun c11 => ?_)
    · have hsp := itT hsp c11
      refine lv_iconst (v := 0) hx hb dX4_didWork_144 (by decide) ?_
      have hres := Option.some.inj hsp
      subst hres
      exact W.zret (v := 0) hx hb hr (zE (Or.inl rfl)) (fun t ht hW => ⟨⟨0, (), rfl, ⟨rfl, (Or.inl rfl)⟩, P_at ht hP⟩, hS.F ht⟩) hS.2.2 dX4_didWork_145
    have hsp := itF hsp c11
    refine lv_iconst (v := 1) hx hb dX4_didWork_140 (by decide) ?_
    refine lv_goto (tgt := 145) hx hb dX4_didWork_141 (by decide) ?_
    have hres := Option.some.inj hsp
    subst hres
    exact W.zret (v := 1) hx hb hr (zE (Or.inr rfl)) (fun t ht hW => ⟨⟨1, (), rfl, ⟨rfl, (Or.inr rfl)⟩, P_at ht hP⟩, hS.F ht⟩) hS.2.2 dX4_didWork_145
  have hsp := itF hsp c9
  by_cases c12 : g22_0 = 112
  · have hsp := itT hsp c12
    refine lv_lookup (off := 136) (tgt := 146) hx hb dX4_didWork_10 (by decide) (by rw [c12]; decide) (by decide) ?_
    refine lv_aload_n hx hb dX4_didWork_146 rfl (lv_at hl 0 rfl) ?_
    refine va_get (D := D) (ci := 4) (v := .ref a1) (C := RX4) (T := TX4) (N := 7) hx hb hts hi_X4 hown hK hP 0 rfl rfl 0 (by decide) hf_12 (fun _ h9 => h9) rfl dX4_didWork_147 ?_
    refine lv_aload_n hx hb dX4_didWork_150 rfl (lv_at hl 1 rfl) ?_
    refine va_getN (D := D) (ci := 3) (v := .int g22_1) (C := RX3) (T := TX3) (N := 5) hx hb hts hi_X3 hown hK hP 10 rfl rfl 1 (by decide) (fn_ThinnedPots_176 hKU.2.2) (fun _ h9 => h9) rfl dX4_didWork_151 ?_
    obtain ⟨r13, hcr13, hsp⟩ := clE hsp
    refine call_i (w1 := [(a1, .inr (2, [.ref a2, .ref a3, .ref a4, .ref a5, .ref a6, .ref a7, .int g1_6, .int r13.2.1, .int g1_8, .int g1_9, .ref a8, .ref a9])), (a2, .inl (cI, 2, .inl f2)), (a3, .inl (cI, 36, .inl r13.2.2.1)), (a5, .inl (cI, 18, .inl f5)), (a6, .inl (cI, 18, .inl r13.2.2.2.1)), (a7, .inl (cI, 6, .inl r13.2.2.2.2.1)), (a8, .inl (cI, 4, .inl r13.2.2.2.2.2.1)), (a9, .inl (cI, 4, .inl r13.2.2.2.2.2.2))]) (ws' := [(a0, .inr (4, [.ref a1, w0_1, w0_2, w0_3, w0_4, w0_5, w0_6])), (a1, .inr (2, [.ref a2, .ref a3, .ref a4, .ref a5, .ref a6, .ref a7, .int g1_6, .int r13.2.1, .int g1_8, .int g1_9, .ref a8, .ref a9])), (a2, .inl (cI, 2, .inl f2)), (a3, .inl (cI, 36, .inl r13.2.2.1)), (a4, .inl (cI, 8, .inl f4)), (a5, .inl (cI, 18, .inl f5)), (a6, .inl (cI, 18, .inl r13.2.2.2.1)), (a7, .inl (cI, 6, .inl r13.2.2.2.2.1)), (a8, .inl (cI, 4, .inl r13.2.2.2.2.2.1)), (a9, .inl (cI, 4, .inl r13.2.2.2.2.2.2)), (a22, .inr (3, [.int g22_0, .int g22_1, .int g22_2, .int g22_3, .ref a23])), (a23, .inl (cI, 4, .inl f23))]) (va_runV (As := [.int g22_1]) (rest := []) ⟨hx, hb, hml, hown, hts⟩ (k_X2_paintPanel l D cI cZ cC cS H.size a1 a2 a3 a5 a6 a7 a8 a9 (.ref a4) (.int g1_6) g1_7 (.int g1_8) (.int g1_9) f2 f3 f5 f6 f7 f8 f9 g22_1 r13 hcr13) (cwV 1 hts gX4_didWork_X2_paintPanel rfl rfl rfl nd_X2_paintPanel ⟨Nat.le_of_ble_eq_true rfl, Nat.le_of_ble_eq_true rfl⟩) (PB.preV (ci := 2) (q0 := 1) hKU hP hD [1, 2, 3, 5, 6, 7, 8, 9] rfl rfl rfl rfl) rfl rfl hl.1 rfl (lv_room (Nat.le_of_ble_eq_true rfl)) dX4_didWork_154 ⟨Nat.zero_le _, Nat.zero_le _⟩) hS hP hD hA [1, 2, 3, 5, 6, 7, 8, 9] rfl rfl (by first | (simp only [wset, List.set_cons_zero, List.set_cons_succ]; done) | rfl) rfl (fun H locs hP hD hS => ?_)
    refine lv_if_lt (tgt := 164) hx hb dX4_didWork_157 (by decide) (fun c14 => ?_) (fun c14 => ?_)
    · have hsp := itT hsp c14
      refine lv_iconst (v := 0) hx hb dX4_didWork_164 (by decide) ?_
      have hres := Option.some.inj hsp
      subst hres
      exact W.zret (v := 0) hx hb hr (zE (Or.inl rfl)) (fun t ht hW => ⟨⟨0, (), rfl, ⟨rfl, (Or.inl rfl)⟩, P_at ht hP⟩, hS.F ht⟩) hS.2.2 dX4_didWork_165
    have hsp := itF hsp c14
    refine lv_iconst (v := 1) hx hb dX4_didWork_160 (by decide) ?_
    refine lv_goto (tgt := 165) hx hb dX4_didWork_161 (by decide) ?_
    have hres := Option.some.inj hsp
    subst hres
    exact W.zret (v := 1) hx hb hr (zE (Or.inr rfl)) (fun t ht hW => ⟨⟨1, (), rfl, ⟨rfl, (Or.inr rfl)⟩, P_at ht hP⟩, hS.F ht⟩) hS.2.2 dX4_didWork_165
  have hsp := itF hsp c12
  by_cases c15 : g22_0 = 114
  · have hsp := itT hsp c15
    refine lv_lookup (off := 156) (tgt := 166) hx hb dX4_didWork_10 (by decide) (by rw [c15]; decide) (by decide) ?_
    refine lv_aload_n hx hb dX4_didWork_166 rfl (lv_at hl 0 rfl) ?_
    refine va_get (D := D) (ci := 4) (v := .ref a1) (C := RX4) (T := TX4) (N := 7) hx hb hts hi_X4 hown hK hP 0 rfl rfl 0 (by decide) hf_12 (fun _ h9 => h9) rfl dX4_didWork_167 ?_
    obtain ⟨r16, hcr16, hsp⟩ := clE hsp
    refine call_i (w1 := [(a1, .inr (2, [.ref a2, .ref a3, .ref a4, .ref a5, .ref a6, .ref a7, .int g1_6, .int g1_7, .int r16.2.1, .int r16.2.2.1, .ref a8, .ref a9])), (a3, .inl (cI, 36, .inl r16.2.2.2))]) (ws' := [(a0, .inr (4, [.ref a1, w0_1, w0_2, w0_3, w0_4, w0_5, w0_6])), (a1, .inr (2, [.ref a2, .ref a3, .ref a4, .ref a5, .ref a6, .ref a7, .int g1_6, .int g1_7, .int r16.2.1, .int r16.2.2.1, .ref a8, .ref a9])), (a2, .inl (cI, 2, .inl f2)), (a3, .inl (cI, 36, .inl r16.2.2.2)), (a4, .inl (cI, 8, .inl f4)), (a5, .inl (cI, 18, .inl f5)), (a6, .inl (cI, 18, .inl f6)), (a7, .inl (cI, 6, .inl f7)), (a8, .inl (cI, 4, .inl f8)), (a9, .inl (cI, 4, .inl f9)), (a22, .inr (3, [.int g22_0, .int g22_1, .int g22_2, .int g22_3, .ref a23])), (a23, .inl (cI, 4, .inl f23))]) (va_runV (As := []) (rest := []) ⟨hx, hb, hml, hown, hts⟩ (k_X2_rinseBrush l D cI cZ cC cS H.size a1 a3 (.ref a2) (.ref a4) (.ref a5) (.ref a6) (.ref a7) (.int g1_6) (.int g1_7) g1_8 g1_9 (.ref a8) (.ref a9) f3 r16 hcr16) (cwV 0 hts gX4_didWork_X2_rinseBrush rfl rfl rfl nd_X2_rinseBrush ⟨Nat.le_of_ble_eq_true rfl, Nat.le_of_ble_eq_true rfl⟩) (PB.preV (ci := 2) (q0 := 1) hKU hP hD [1, 3] rfl rfl rfl rfl) rfl rfl hl.1 rfl (lv_room (Nat.le_of_ble_eq_true rfl)) dX4_didWork_170 ⟨Nat.zero_le _, Nat.zero_le _⟩) hS hP hD hA [1, 3] rfl rfl (by first | (simp only [wset, List.set_cons_zero, List.set_cons_succ]; done) | rfl) rfl (fun H locs hP hD hS => ?_)
    refine lv_if_lt (tgt := 180) hx hb dX4_didWork_173 (by decide) (fun c17 => ?_) (fun c17 => ?_)
    · have hsp := itT hsp c17
      refine lv_iconst (v := 0) hx hb dX4_didWork_180 (by decide) ?_
      have hres := Option.some.inj hsp
      subst hres
      exact W.zret (v := 0) hx hb hr (zE (Or.inl rfl)) (fun t ht hW => ⟨⟨0, (), rfl, ⟨rfl, (Or.inl rfl)⟩, P_at ht hP⟩, hS.F ht⟩) hS.2.2 dX4_didWork_181
    have hsp := itF hsp c17
    refine lv_iconst (v := 1) hx hb dX4_didWork_176 (by decide) ?_
    refine lv_goto (tgt := 181) hx hb dX4_didWork_177 (by decide) ?_
    have hres := Option.some.inj hsp
    subst hres
    exact W.zret (v := 1) hx hb hr (zE (Or.inr rfl)) (fun t ht hW => ⟨⟨1, (), rfl, ⟨rfl, (Or.inr rfl)⟩, P_at ht hP⟩, hS.F ht⟩) hS.2.2 dX4_didWork_181
  have hsp := itF hsp c15
  refine lv_lookup (off := 172) (tgt := 182) hx hb dX4_didWork_10 (by decide) ((lv_osw c1 (by decide)).trans ((lv_osw c4 (by decide)).trans ((lv_osw c6 (by decide)).trans ((lv_osw c9 (by decide)).trans ((lv_osw c12 (by decide)).trans ((lv_osw c15 (by decide)).trans rfl)))))) (by decide) ?_
  refine lv_iconst (v := 0) hx hb dX4_didWork_182 (by decide) ?_
  have hres := Option.some.inj hsp
  subst hres
  exact W.zret (v := 0) hx hb hr (zE (Or.inl rfl)) (fun t ht hW => ⟨⟨0, (), rfl, ⟨rfl, (Or.inl rfl)⟩, P_at ht hP⟩, hS.F ht⟩) hS.2.2 dX4_didWork_183

theorem nd_X4_keepState : yX4_keepState.cls = RX4 ∧ yX4_keepState.cls ≠ "java/lang/invoke/MethodHandle" ∧ yX4_keepState.cls ≠ "java/lang/invoke/VarHandle" ∧ (parseMethodDescriptor yX4_keepState.desc).map (fun d => d.parameters.length) = some 0 := by decide +kernel
set_option maxHeartbeats 8000000 in
set_option maxRecDepth 100000 in
theorem k_X4_keepState (l : Launch) (D : va_G) (cI cZ cC cS : ClassId) (sz : Nat) (a0 a1 a2 a3 a4 a5 a6 a7 a20 a22 a23 a24 a25 a26 a27 a28 : Nat) (w0_1 : Value) (w0_2 : Value) (w0_4 : Value) (g0_5 : Int32) (w0_6 : Value) (g1_6 : Int32) (g1_7 : Int32) (g1_8 : Int32) (g1_9 : Int32) (w1_10 : Value) (w1_11 : Value) (f2 : Nat → Int32) (f3 : Nat → Int32) (f4 : Nat → Int32) (f5 : Nat → Int32) (f6 : Nat → Int32) (f7 : Nat → Int32) (f20 : Nat → Option Nat) (g22_6 : Int32) (g22_7 : Int32) (g22_8 : Int32) (g22_9 : Int32) (w22_10 : Value) (w22_11 : Value) (f23 : Nat → Int32) (f24 : Nat → Int32) (f25 : Nat → Int32) (f26 : Nat → Int32) (f27 : Nat → Int32) (f28 : Nat → Int32) (hq : s_X4_studioAt 7 f20 g0_5 = some (some a22)) (res : Int32 × Int32 × Int32 × Int32 × (Nat → Int32) × (Nat → Int32) × (Nat → Int32) × (Nat → Int32) × (Nat → Int32) × (Nat → Int32)) (hsp : s_X4_keepState g0_5 g1_6 g1_7 g1_8 g1_9 f2 f3 f4 f5 f6 f7 f20 f23 f24 f25 f26 f27 f28 = some res) : Met l yX4_keepState wsX4_keepState ({ frames := 3, cells := 0, slots := 0, locals := 66 }) (va_Pc [.ref a0] (PB D cI cZ cC cS [(a0, .inr (4, [.ref a1, w0_1, w0_2, .ref a20, w0_4, .int g0_5, w0_6])), (a1, .inr (2, [.ref a2, .ref a3, .ref a4, .ref a5, .ref a6, .ref a7, .int g1_6, .int g1_7, .int g1_8, .int g1_9, w1_10, w1_11])), (a2, .inl (cI, 2, .inl f2)), (a3, .inl (cI, 36, .inl f3)), (a4, .inl (cI, 8, .inl f4)), (a5, .inl (cI, 18, .inl f5)), (a6, .inl (cI, 18, .inl f6)), (a7, .inl (cI, 6, .inl f7)), (a20, .inl (cS, 7, .inr (.inr (.inr (.inr f20))))), (a22, .inr (2, [.ref a23, .ref a24, .ref a25, .ref a26, .ref a27, .ref a28, .int g22_6, .int g22_7, .int g22_8, .int g22_9, w22_10, w22_11])), (a23, .inl (cI, 2, .inl f23)), (a24, .inl (cI, 36, .inl f24)), (a25, .inl (cI, 8, .inl f25)), (a26, .inl (cI, 18, .inl f26)), (a27, .inl (cI, 18, .inl f27)), (a28, .inl (cI, 6, .inl f28))] sz)) (va_Qv (fun (_ : Unit) => True) (fun _ t => va_P D vwCl [(a0, .inr (4, [.ref a1, w0_1, w0_2, .ref a20, w0_4, .int g0_5, w0_6])), (a1, .inr (2, [.ref a2, .ref a3, .ref a4, .ref a5, .ref a6, .ref a7, .int g1_6, .int g1_7, .int g1_8, .int g1_9, w1_10, w1_11])), (a2, .inl (cI, 2, .inl f2)), (a3, .inl (cI, 36, .inl f3)), (a4, .inl (cI, 8, .inl f4)), (a5, .inl (cI, 18, .inl f5)), (a6, .inl (cI, 18, .inl f6)), (a7, .inl (cI, 6, .inl f7)), (a20, .inl (cS, 7, .inr (.inr (.inr (.inr f20))))), (a22, .inr (2, [.ref a23, .ref a24, .ref a25, .ref a26, .ref a27, .ref a28, .int res.1, .int res.2.1, .int res.2.2.1, .int res.2.2.2.1, w22_10, w22_11])), (a23, .inl (cI, 2, .inl res.2.2.2.2.1)), (a24, .inl (cI, 36, .inl res.2.2.2.2.2.1)), (a25, .inl (cI, 8, .inl res.2.2.2.2.2.2.1)), (a26, .inl (cI, 18, .inl res.2.2.2.2.2.2.2.1)), (a27, .inl (cI, 18, .inl res.2.2.2.2.2.2.2.2.1)), (a28, .inl (cI, 6, .inl res.2.2.2.2.2.2.2.2.2))] t.heap) (va_A [(a0, .inr (4, [.ref a1, w0_1, w0_2, .ref a20, w0_4, .int g0_5, w0_6])), (a1, .inr (2, [.ref a2, .ref a3, .ref a4, .ref a5, .ref a6, .ref a7, .int g1_6, .int g1_7, .int g1_8, .int g1_9, w1_10, w1_11])), (a2, .inl (cI, 2, .inl f2)), (a3, .inl (cI, 36, .inl f3)), (a4, .inl (cI, 8, .inl f4)), (a5, .inl (cI, 18, .inl f5)), (a6, .inl (cI, 18, .inl f6)), (a7, .inl (cI, 6, .inl f7)), (a20, .inl (cS, 7, .inr (.inr (.inr (.inr f20))))), (a22, .inr (2, [.ref a23, .ref a24, .ref a25, .ref a26, .ref a27, .ref a28, .int g22_6, .int g22_7, .int g22_8, .int g22_9, w22_10, w22_11])), (a23, .inl (cI, 2, .inl f23)), (a24, .inl (cI, 36, .inl f24)), (a25, .inl (cI, 8, .inl f25)), (a26, .inl (cI, 18, .inl f26)), (a27, .inl (cI, 18, .inl f27)), (a28, .inl (cI, 6, .inl f28))] sz)) 0 0 (va_A [(a0, .inr (4, [.ref a1, w0_1, w0_2, .ref a20, w0_4, .int g0_5, w0_6])), (a1, .inr (2, [.ref a2, .ref a3, .ref a4, .ref a5, .ref a6, .ref a7, .int g1_6, .int g1_7, .int g1_8, .int g1_9, w1_10, w1_11])), (a2, .inl (cI, 2, .inl f2)), (a3, .inl (cI, 36, .inl f3)), (a4, .inl (cI, 8, .inl f4)), (a5, .inl (cI, 18, .inl f5)), (a6, .inl (cI, 18, .inl f6)), (a7, .inl (cI, 6, .inl f7)), (a20, .inl (cS, 7, .inr (.inr (.inr (.inr f20))))), (a22, .inr (2, [.ref a23, .ref a24, .ref a25, .ref a26, .ref a27, .ref a28, .int g22_6, .int g22_7, .int g22_8, .int g22_9, w22_10, w22_11])), (a23, .inl (cI, 2, .inl f23)), (a24, .inl (cI, 36, .inl f24)), (a25, .inl (cI, 8, .inl f25)), (a26, .inl (cI, 18, .inl f26)), (a27, .inl (cI, 18, .inl f27)), (a28, .inl (cI, 6, .inl f28))] sz) := by
  refine Met.ofW (cc := cX4_keepState) (maxL := 2) (ret := none) (by decide) rfl ?_
  intro p e s m args below meth c s₁ B hml hv
  obtain ⟨rfl, hsz, hP, hD0, hKU⟩ := hv
  have hx := B.exec
  have hb := B.bytes
  have hr := B.returns
  have hts := atoms_spec (ws := wsX4_keepState) B.pre
  have hown : s.vm.findClass RX4 = some m.cls := findClass_of_methodNamed B.named
  have hlocks := B.notSynchronized
  have hK := hKU.1
  have hf_32 := hts (.fieldLink RX4 32 "ThinnedPots" "history" "[LThinnedPots$Studio;") (by decide +kernel)
  have hi_X4 : ∀ w ∈ u_ws RX4 TX4 7, w ∈ wsX4_keepState := by decide +kernel
  have hf_39 := hts (.fieldLink RX4 39 "ThinnedPots" "nextPlace" "I") (by decide +kernel)
  have hf_12 := hts (.fieldLink RX4 12 "ThinnedPots" "studio" "LThinnedPots$Studio;") (by decide +kernel)
  subst hsz
  have hD := hD0.self (sz := s.heap.size)
  generalize hAe : va_A [(a0, .inr (4, [.ref a1, w0_1, w0_2, .ref a20, w0_4, .int g0_5, w0_6])), (a1, .inr (2, [.ref a2, .ref a3, .ref a4, .ref a5, .ref a6, .ref a7, .int g1_6, .int g1_7, .int g1_8, .int g1_9, w1_10, w1_11])), (a2, .inl (cI, 2, .inl f2)), (a3, .inl (cI, 36, .inl f3)), (a4, .inl (cI, 8, .inl f4)), (a5, .inl (cI, 18, .inl f5)), (a6, .inl (cI, 18, .inl f6)), (a7, .inl (cI, 6, .inl f7)), (a20, .inl (cS, 7, .inr (.inr (.inr (.inr f20))))), (a22, .inr (2, [.ref a23, .ref a24, .ref a25, .ref a26, .ref a27, .ref a28, .int g22_6, .int g22_7, .int g22_8, .int g22_9, w22_10, w22_11])), (a23, .inl (cI, 2, .inl f23)), (a24, .inl (cI, 36, .inl f24)), (a25, .inl (cI, 8, .inl f25)), (a26, .inl (cI, 18, .inl f26)), (a27, .inl (cI, 18, .inl f27)), (a28, .inl (cI, 6, .inl f28))] s.heap.size = A at hD ⊢
  have hA : ∀ q : Nat, s.heap.size ≤ q → A q := fun q h => by rw [← hAe]; exact Or.inr h
  have hP : va_P D vwCl [(a0, .inr (4, [.ref a1, w0_1, w0_2, .ref a20, w0_4, .int g0_5, w0_6])), (a1, .inr (2, [.ref a2, .ref a3, .ref a4, .ref a5, .ref a6, .ref a7, .int g1_6, .int g1_7, .int g1_8, .int g1_9, w1_10, w1_11])), (a2, .inl (cI, 2, .inl f2)), (a3, .inl (cI, 36, .inl f3)), (a4, .inl (cI, 8, .inl f4)), (a5, .inl (cI, 18, .inl f5)), (a6, .inl (cI, 18, .inl f6)), (a7, .inl (cI, 6, .inl f7)), (a20, .inl (cS, 7, .inr (.inr (.inr (.inr f20))))), (a22, .inr (2, [.ref a23, .ref a24, .ref a25, .ref a26, .ref a27, .ref a28, .int g22_6, .int g22_7, .int g22_8, .int g22_9, w22_10, w22_11])), (a23, .inl (cI, 2, .inl f23)), (a24, .inl (cI, 36, .inl f24)), (a25, .inl (cI, 8, .inl f25)), (a26, .inl (cI, 18, .inl f26)), (a27, .inl (cI, 18, .inl f27)), (a28, .inl (cI, 6, .inl f28))] s.heap := hP
  generalize hHe : s.heap = H at hP ⊢
  have hS : va_S A s.heap H [] := by rw [hHe]; exact va_S.rf
  have hl := lv_entry ([.ref a0]) (n := 2) (Nat.le_of_ble_eq_true rfl)
  rw [lg_entry_eq]
  generalize (lg_sl ([.ref a0]) ++ List.replicate (2 - (lg_sl ([.ref a0])).length) Slot.unset).toArray = ls at hl ⊢
  have hl : lv_has ls 2 [(0, .ref a0)] := hl
  unfold s_X4_keepState at hsp
  refine lv_aload_n hx hb dX4_keepState_0 rfl (lv_at hl 0 rfl) ?_
  refine va_get (D := D) (ci := 4) (v := .ref a20) (C := RX4) (T := TX4) (N := 7) hx hb hts hi_X4 hown hK hP 0 rfl rfl 3 (by decide) hf_32 (fun _ h9 => h9) rfl dX4_keepState_1 ?_
  refine lv_aload_n hx hb dX4_keepState_4 rfl (lv_at hl 0 rfl) ?_
  refine va_get (D := D) (ci := 4) (v := .int g0_5) (C := RX4) (T := TX4) (N := 7) hx hb hts hi_X4 hown hK hP 0 rfl rfl 5 (by decide) hf_39 (fun _ h9 => h9) rfl dX4_keepState_5 ?_
  obtain ⟨r1, hcr1, hsp⟩ := clE hsp
  refine call_q (w1 := [(a20, .inl (cS, 7, .inr (.inr (.inr (.inr f20)))))]) (ws' := [(a0, .inr (4, [.ref a1, w0_1, w0_2, .ref a20, w0_4, .int g0_5, w0_6])), (a1, .inr (2, [.ref a2, .ref a3, .ref a4, .ref a5, .ref a6, .ref a7, .int g1_6, .int g1_7, .int g1_8, .int g1_9, w1_10, w1_11])), (a2, .inl (cI, 2, .inl f2)), (a3, .inl (cI, 36, .inl f3)), (a4, .inl (cI, 8, .inl f4)), (a5, .inl (cI, 18, .inl f5)), (a6, .inl (cI, 18, .inl f6)), (a7, .inl (cI, 6, .inl f7)), (a20, .inl (cS, 7, .inr (.inr (.inr (.inr f20))))), (a22, .inr (2, [.ref a23, .ref a24, .ref a25, .ref a26, .ref a27, .ref a28, .int g22_6, .int g22_7, .int g22_8, .int g22_9, w22_10, w22_11])), (a23, .inl (cI, 2, .inl f23)), (a24, .inl (cI, 36, .inl f24)), (a25, .inl (cI, 8, .inl f25)), (a26, .inl (cI, 18, .inl f26)), (a27, .inl (cI, 18, .inl f27)), (a28, .inl (cI, 6, .inl f28))]) (va_runS (As := [.ref a20, .int g0_5]) (rest := []) ⟨hx, hb, hml, hown, hts⟩ (k_X4_studioAt l D cI cZ cC cS H.size a20 7 f20 g0_5 r1 hcr1) (va_cwS 2 hts gX4_keepState_X4_studioAt rfl rfl rfl nd_X4_studioAt.2 ⟨Nat.le_of_ble_eq_true rfl, Nat.le_of_ble_eq_true rfl⟩) (PB.preS hKU hP hD [8] rfl rfl) rfl rfl hl.1 rfl (lv_room (Nat.le_of_ble_eq_true rfl)) dX4_keepState_8 ⟨Nat.zero_le _, Nat.zero_le _⟩) hS hP hD hA [8] rfl rfl (by first | (simp only [wset, List.set_cons_zero, List.set_cons_succ]; done) | rfl) rfl (fun H locs hP hD hS => ?_)
  have hrr1 : r1 = some a22 := Option.some.inj (hcr1.symm.trans hq)
  rw [hrr1]
  refine W.eq (g2 := F0 m 11 ls [.ref a22]) rfl ?_
  refine lv_astore_n (lv' := [(1, .ref a22), (0, .ref a0)]) hx hb dX4_keepState_11 rfl hl (by decide) rfl (fun ls hl => ?_)
  refine lv_aload_n hx hb dX4_keepState_12 rfl (lv_at hl 0 rfl) ?_
  refine lv_ifnull hx hb dX4_keepState_13 ?_
  refine lv_aload_n hx hb dX4_keepState_16 rfl (lv_at hl 0 rfl) ?_
  refine lv_aload_n hx hb dX4_keepState_17 rfl (lv_at hl 1 rfl) ?_
  refine va_get (D := D) (ci := 4) (v := .ref a1) (C := RX4) (T := TX4) (N := 7) hx hb hts hi_X4 hown hK hP 0 rfl rfl 0 (by decide) hf_12 (fun _ h9 => h9) rfl dX4_keepState_18 ?_
  obtain ⟨r2, hcr2, hsp⟩ := clE hsp
  refine call_v (w1 := [(a22, .inr (2, [.ref a23, .ref a24, .ref a25, .ref a26, .ref a27, .ref a28, .int r2.1, .int r2.2.1, .int r2.2.2.1, .int r2.2.2.2.1, w22_10, w22_11])), (a23, .inl (cI, 2, .inl r2.2.2.2.2.1)), (a24, .inl (cI, 36, .inl r2.2.2.2.2.2.1)), (a25, .inl (cI, 8, .inl r2.2.2.2.2.2.2.1)), (a26, .inl (cI, 18, .inl r2.2.2.2.2.2.2.2.1)), (a27, .inl (cI, 18, .inl r2.2.2.2.2.2.2.2.2.1)), (a28, .inl (cI, 6, .inl r2.2.2.2.2.2.2.2.2.2)), (a1, .inr (2, [.ref a2, .ref a3, .ref a4, .ref a5, .ref a6, .ref a7, .int g1_6, .int g1_7, .int g1_8, .int g1_9, w1_10, w1_11])), (a2, .inl (cI, 2, .inl f2)), (a3, .inl (cI, 36, .inl f3)), (a4, .inl (cI, 8, .inl f4)), (a5, .inl (cI, 18, .inl f5)), (a6, .inl (cI, 18, .inl f6)), (a7, .inl (cI, 6, .inl f7))]) (ws' := [(a0, .inr (4, [.ref a1, w0_1, w0_2, .ref a20, w0_4, .int g0_5, w0_6])), (a1, .inr (2, [.ref a2, .ref a3, .ref a4, .ref a5, .ref a6, .ref a7, .int g1_6, .int g1_7, .int g1_8, .int g1_9, w1_10, w1_11])), (a2, .inl (cI, 2, .inl f2)), (a3, .inl (cI, 36, .inl f3)), (a4, .inl (cI, 8, .inl f4)), (a5, .inl (cI, 18, .inl f5)), (a6, .inl (cI, 18, .inl f6)), (a7, .inl (cI, 6, .inl f7)), (a20, .inl (cS, 7, .inr (.inr (.inr (.inr f20))))), (a22, .inr (2, [.ref a23, .ref a24, .ref a25, .ref a26, .ref a27, .ref a28, .int r2.1, .int r2.2.1, .int r2.2.2.1, .int r2.2.2.2.1, w22_10, w22_11])), (a23, .inl (cI, 2, .inl r2.2.2.2.2.1)), (a24, .inl (cI, 36, .inl r2.2.2.2.2.2.1)), (a25, .inl (cI, 8, .inl r2.2.2.2.2.2.2.1)), (a26, .inl (cI, 18, .inl r2.2.2.2.2.2.2.2.1)), (a27, .inl (cI, 18, .inl r2.2.2.2.2.2.2.2.2.1)), (a28, .inl (cI, 6, .inl r2.2.2.2.2.2.2.2.2.2))]) (va_runV (As := [.ref a1]) (rest := []) ⟨hx, hb, hml, hown, hts⟩ (k_X2_copyFrom l D cI cZ cC cS H.size a22 a23 a24 a25 a26 a27 a28 a1 a2 a3 a4 a5 a6 a7 g22_6 g22_7 g22_8 g22_9 (w22_10) (w22_11) f23 f24 f25 f26 f27 f28 g1_6 g1_7 g1_8 g1_9 (w1_10) (w1_11) f2 f3 f4 f5 f6 f7 r2 hcr2) (cwV 1 hts gX4_keepState_X2_copyFrom rfl rfl rfl nd_X2_copyFrom ⟨Nat.le_of_ble_eq_true rfl, Nat.le_of_ble_eq_true rfl⟩) (PB.preV (ci := 2) (q0 := 9) hKU hP hD [9, 10, 11, 12, 13, 14, 15, 1, 2, 3, 4, 5, 6, 7] rfl rfl rfl rfl) rfl rfl hl.1 rfl (lv_room (Nat.le_of_ble_eq_true rfl)) dX4_keepState_21 ⟨Nat.zero_le _, Nat.zero_le _⟩) hS hP hD hA [9, 10, 11, 12, 13, 14, 15, 1, 2, 3, 4, 5, 6, 7] rfl rfl (by first | (simp only [wset, List.set_cons_zero, List.set_cons_succ]; done) | rfl) rfl (fun H locs hP hD hS => ?_)
  have hres := Option.some.inj hsp
  subst hres
  exact W.vret hx hb hr (fun t ht hW => ⟨⟨(), rfl, trivial, P_at ht hP⟩, hS.F ht⟩) hS.2.2 dX4_keepState_24

theorem nd_X4_recorded : yX4_recorded.cls = RX4 ∧ yX4_recorded.cls ≠ "java/lang/invoke/MethodHandle" ∧ yX4_recorded.cls ≠ "java/lang/invoke/VarHandle" ∧ (parseMethodDescriptor yX4_recorded.desc).map (fun d => d.parameters.length) = some 1 := by decide +kernel
set_option maxHeartbeats 8000000 in
set_option maxRecDepth 100000 in
theorem k_X4_recorded (l : Launch) (D : va_G) (cI cZ cC cS : ClassId) (sz : Nat) (a0 : Nat) (w0_0 : Value) (w0_1 : Value) (w0_2 : Value) (w0_3 : Value) (w0_4 : Value) (g0_5 : Int32) (g0_6 : Int32) (u1 : Int32) (res : Int32 × Int32 × Int32) (hsp : s_X4_recorded g0_5 g0_6 u1 = some res) : Met l yX4_recorded wsX4_recorded ({ frames := 1, cells := 0, slots := 0, locals := 24 }) (va_Pc [.ref a0, .int u1] (PB D cI cZ cC cS [(a0, .inr (4, [w0_0, w0_1, w0_2, w0_3, w0_4, .int g0_5, .int g0_6]))] sz)) (va_Qi (fun r (_ : Unit) => r = res.1) (fun _ t => va_P D vwCl [(a0, .inr (4, [w0_0, w0_1, w0_2, w0_3, w0_4, .int res.2.1, .int res.2.2]))] t.heap) (va_A [(a0, .inr (4, [w0_0, w0_1, w0_2, w0_3, w0_4, .int g0_5, .int g0_6]))] sz)) 0 0 (va_A [(a0, .inr (4, [w0_0, w0_1, w0_2, w0_3, w0_4, .int g0_5, .int g0_6]))] sz) := by
  refine Met.ofW (cc := cX4_recorded) (maxL := 2) (ret := (some .int)) (by decide) rfl ?_
  intro p e s m args below meth c s₁ B hml hv
  obtain ⟨rfl, hsz, hP, hD0, hKU⟩ := hv
  have hx := B.exec
  have hb := B.bytes
  have hr := B.returns
  have hts := atoms_spec (ws := wsX4_recorded) B.pre
  have hown : s.vm.findClass RX4 = some m.cls := findClass_of_methodNamed B.named
  have hlocks := B.notSynchronized
  have hK := hKU.1
  have hf_39 := hts (.fieldLink RX4 39 "ThinnedPots" "nextPlace" "I") (by decide +kernel)
  have hi_X4 : ∀ w ∈ u_ws RX4 TX4 7, w ∈ wsX4_recorded := by decide +kernel
  have hf_43 := hts (.fieldLink RX4 43 "ThinnedPots" "kept" "I") (by decide +kernel)
  have hm_l163 := hts (.methodLink RX4 163 Lib.Math.min.name) (by decide +kernel)
  have hm_s_min := hts (.static Lib.Math.min.name) (by decide +kernel)
  have hm_i := hts (.initialized "java/lang/Math") (by decide +kernel)
  have hm_c_min := hts (.code Lib.Math.min.name Lib.Math.min.code 2 (some .int)) (by decide +kernel)
  subst hsz
  have hD := hD0.self (sz := s.heap.size)
  generalize hAe : va_A [(a0, .inr (4, [w0_0, w0_1, w0_2, w0_3, w0_4, .int g0_5, .int g0_6]))] s.heap.size = A at hD ⊢
  have hA : ∀ q : Nat, s.heap.size ≤ q → A q := fun q h => by rw [← hAe]; exact Or.inr h
  have hP : va_P D vwCl [(a0, .inr (4, [w0_0, w0_1, w0_2, w0_3, w0_4, .int g0_5, .int g0_6]))] s.heap := hP
  generalize hHe : s.heap = H at hP ⊢
  have hS : va_S A s.heap H [] := by rw [hHe]; exact va_S.rf
  have hl := lv_entry ([.ref a0, .int u1]) (n := 2) (Nat.le_of_ble_eq_true rfl)
  rw [lg_entry_eq]
  generalize (lg_sl ([.ref a0, .int u1]) ++ List.replicate (2 - (lg_sl ([.ref a0, .int u1])).length) Slot.unset).toArray = ls at hl ⊢
  have hl : lv_has ls 2 [(0, .ref a0), (1, .int u1)] := hl
  unfold s_X4_recorded at hsp
  refine lv_iload_n hx hb dX4_recorded_0 rfl (lv_at hl 1 rfl) ?_
  refine lv_if_lt (tgt := 42) hx hb dX4_recorded_1 (by decide) (fun c1 => ?_) (fun c1 => ?_)
  · have hsp := itT hsp c1
    refine lv_iload_n hx hb dX4_recorded_42 rfl (lv_at hl 1 rfl) ?_
    have hres := Option.some.inj hsp
    subst hres
    exact W.iret (v := u1) hx hb hr (fun t ht hW => ⟨⟨u1, (), rfl, rfl, P_at ht hP⟩, hS.F ht⟩) hS.2.2 dX4_recorded_43
  have hsp := itF hsp c1
  refine lv_aload_n hx hb dX4_recorded_4 rfl (lv_at hl 0 rfl) ?_
  refine lv_aload_n hx hb dX4_recorded_5 rfl (lv_at hl 0 rfl) ?_
  refine va_get (D := D) (ci := 4) (v := .int g0_5) (C := RX4) (T := TX4) (N := 7) hx hb hts hi_X4 hown hK hP 0 rfl rfl 5 (by decide) hf_39 (fun _ h9 => h9) rfl dX4_recorded_6 ?_
  refine lv_bipush (v := 6) hx hb dX4_recorded_9 (by decide) ?_
  refine lv_icmp_lt (tgt := 18) hx hb dX4_recorded_11 (by decide) (fun c2 => ?_) (fun c2 => ?_)
  · have hsp := itT hsp c2
    refine lv_aload_n hx hb dX4_recorded_18 rfl (lv_at hl 0 rfl) ?_
    refine va_get (D := D) (ci := 4) (v := .int g0_5) (C := RX4) (T := TX4) (N := 7) hx hb hts hi_X4 hown hK hP 0 rfl rfl 5 (by decide) hf_39 (fun _ h9 => h9) rfl dX4_recorded_19 ?_
    refine lv_iconst (v := 1) hx hb dX4_recorded_22 (by decide) ?_
    refine lv_iadd hx hb dX4_recorded_23 ?_
    obtain ⟨x3, ex3, hsp⟩ := nmE hsp
    refine r_top ex3 ?_
    refine va_put (D := D) (ci := 4) (v := .int x3) (ty := .int) (C := RX4) (T := TX4) (N := 7) hx hb hts hi_X4 tyX4 tyX4_ok nmX4 hown hK hP hD hS 0 rfl rfl 5 (by decide) hf_39 (fun _ h9 => h9) rfl (by decide +kernel) rfl rfl (Nat.le_of_ble_eq_true rfl) dX4_recorded_24 (fun H locs hP hD hS => ?_)
    have hP : va_P D vwCl [(a0, .inr (4, [w0_0, w0_1, w0_2, w0_3, w0_4, .int x3, .int g0_6]))] H := hP
    have hD : va_D A [(a0, .inr (4, [w0_0, w0_1, w0_2, w0_3, w0_4, .int x3, .int g0_6]))] := hD
    refine lv_aload_n hx hb dX4_recorded_27 rfl (lv_at hl 0 rfl) ?_
    refine lv_aload_n hx hb dX4_recorded_28 rfl (lv_at hl 0 rfl) ?_
    refine va_get (D := D) (ci := 4) (v := .int g0_6) (C := RX4) (T := TX4) (N := 7) hx hb hts hi_X4 hown hK hP 0 rfl rfl 6 (by decide) hf_43 (fun _ h9 => h9) rfl dX4_recorded_29 ?_
    refine lv_iconst (v := 1) hx hb dX4_recorded_32 (by decide) ?_
    refine lv_iadd hx hb dX4_recorded_33 ?_
    refine lv_bipush (v := 6) hx hb dX4_recorded_34 (by decide) ?_
    refine va_mmin hx hb (by rw [hml]; exact hl.1.symm) hown hm_l163 hm_s_min hm_i hm_c_min (Nat.le_of_ble_eq_true rfl) (Nat.le_of_ble_eq_true rfl) (Nat.zero_le _) (Nat.zero_le _) dX4_recorded_36 ?_
    obtain ⟨x4, ex4, hsp⟩ := nmE hsp
    refine r_top ex4 ?_
    refine va_put (D := D) (ci := 4) (v := .int x4) (ty := .int) (C := RX4) (T := TX4) (N := 7) hx hb hts hi_X4 tyX4 tyX4_ok nmX4 hown hK hP hD hS 0 rfl rfl 6 (by decide) hf_43 (fun _ h9 => h9) rfl (by decide +kernel) rfl rfl (Nat.le_of_ble_eq_true rfl) dX4_recorded_39 (fun H locs hP hD hS => ?_)
    have hP : va_P D vwCl [(a0, .inr (4, [w0_0, w0_1, w0_2, w0_3, w0_4, .int x3, .int x4]))] H := hP
    have hD : va_D A [(a0, .inr (4, [w0_0, w0_1, w0_2, w0_3, w0_4, .int x3, .int x4]))] := hD
    refine lv_iload_n hx hb dX4_recorded_42 rfl (lv_at hl 1 rfl) ?_
    have hres := Option.some.inj hsp
    subst hres
    exact W.iret (v := u1) hx hb hr (fun t ht hW => ⟨⟨u1, (), rfl, rfl, P_at ht hP⟩, hS.F ht⟩) hS.2.2 dX4_recorded_43
  have hsp := itF hsp c2
  refine lv_iconst (v := 0) hx hb dX4_recorded_14 (by decide) ?_
  refine lv_goto (tgt := 24) hx hb dX4_recorded_15 (by decide) ?_
  refine va_put (D := D) (ci := 4) (v := .int 0) (ty := .int) (C := RX4) (T := TX4) (N := 7) hx hb hts hi_X4 tyX4 tyX4_ok nmX4 hown hK hP hD hS 0 rfl rfl 5 (by decide) hf_39 (fun _ h9 => h9) rfl (by decide +kernel) rfl rfl (Nat.le_of_ble_eq_true rfl) dX4_recorded_24 (fun H locs hP hD hS => ?_)
  have hP : va_P D vwCl [(a0, .inr (4, [w0_0, w0_1, w0_2, w0_3, w0_4, .int 0, .int g0_6]))] H := hP
  have hD : va_D A [(a0, .inr (4, [w0_0, w0_1, w0_2, w0_3, w0_4, .int 0, .int g0_6]))] := hD
  refine lv_aload_n hx hb dX4_recorded_27 rfl (lv_at hl 0 rfl) ?_
  refine lv_aload_n hx hb dX4_recorded_28 rfl (lv_at hl 0 rfl) ?_
  refine va_get (D := D) (ci := 4) (v := .int g0_6) (C := RX4) (T := TX4) (N := 7) hx hb hts hi_X4 hown hK hP 0 rfl rfl 6 (by decide) hf_43 (fun _ h9 => h9) rfl dX4_recorded_29 ?_
  refine lv_iconst (v := 1) hx hb dX4_recorded_32 (by decide) ?_
  refine lv_iadd hx hb dX4_recorded_33 ?_
  refine lv_bipush (v := 6) hx hb dX4_recorded_34 (by decide) ?_
  refine va_mmin hx hb (by rw [hml]; exact hl.1.symm) hown hm_l163 hm_s_min hm_i hm_c_min (Nat.le_of_ble_eq_true rfl) (Nat.le_of_ble_eq_true rfl) (Nat.zero_le _) (Nat.zero_le _) dX4_recorded_36 ?_
  obtain ⟨x5, ex5, hsp⟩ := nmE hsp
  refine r_top ex5 ?_
  refine va_put (D := D) (ci := 4) (v := .int x5) (ty := .int) (C := RX4) (T := TX4) (N := 7) hx hb hts hi_X4 tyX4 tyX4_ok nmX4 hown hK hP hD hS 0 rfl rfl 6 (by decide) hf_43 (fun _ h9 => h9) rfl (by decide +kernel) rfl rfl (Nat.le_of_ble_eq_true rfl) dX4_recorded_39 (fun H locs hP hD hS => ?_)
  have hP : va_P D vwCl [(a0, .inr (4, [w0_0, w0_1, w0_2, w0_3, w0_4, .int 0, .int x5]))] H := hP
  have hD : va_D A [(a0, .inr (4, [w0_0, w0_1, w0_2, w0_3, w0_4, .int 0, .int x5]))] := hD
  refine lv_iload_n hx hb dX4_recorded_42 rfl (lv_at hl 1 rfl) ?_
  have hres := Option.some.inj hsp
  subst hres
  exact W.iret (v := u1) hx hb hr (fun t ht hW => ⟨⟨u1, (), rfl, rfl, P_at ht hP⟩, hS.F ht⟩) hS.2.2 dX4_recorded_43

theorem nd_X4_dip : yX4_dip.cls = RX4 ∧ yX4_dip.cls ≠ "java/lang/invoke/MethodHandle" ∧ yX4_dip.cls ≠ "java/lang/invoke/VarHandle" ∧ (parseMethodDescriptor yX4_dip.desc).map (fun d => d.parameters.length) = some 2 := by decide +kernel
set_option maxHeartbeats 8000000 in
set_option maxRecDepth 100000 in
theorem k_X4_dip (l : Launch) (D : va_G) (cI cZ cC cS : ClassId) (sz : Nat) (a0 a1 a2 a3 a4 a5 a6 a7 a8 a9 a20 a22 a23 a24 a25 a26 a27 a28 : Nat) (w0_1 : Value) (w0_2 : Value) (w0_4 : Value) (g0_5 : Int32) (g0_6 : Int32) (g1_6 : Int32) (g1_7 : Int32) (g1_8 : Int32) (g1_9 : Int32) (f2 : Nat → Int32) (f3 : Nat → Int32) (f4 : Nat → Int32) (f5 : Nat → Int32) (f6 : Nat → Int32) (f7 : Nat → Int32) (f8 : Nat → Int32) (f9 : Nat → Int32) (f20 : Nat → Option Nat) (g22_6 : Int32) (g22_7 : Int32) (g22_8 : Int32) (g22_9 : Int32) (w22_10 : Value) (w22_11 : Value) (f23 : Nat → Int32) (f24 : Nat → Int32) (f25 : Nat → Int32) (f26 : Nat → Int32) (f27 : Nat → Int32) (f28 : Nat → Int32) (u1 : Int32) (u2 : Int32) (hq : s_X4_studioAt 7 f20 g0_5 = some (some a22)) (res : Int32 × Int32 × Int32 × (Nat → Int32) × (Nat → Int32) × (Nat → Int32) × Int32 × Int32 × Int32 × Int32 × (Nat → Int32) × (Nat → Int32) × (Nat → Int32) × (Nat → Int32) × (Nat → Int32) × (Nat → Int32)) (hsp : s_X4_dip g0_5 g0_6 g1_6 g1_7 g1_8 g1_9 f2 f3 f4 f5 f6 f7 f8 f9 f20 f23 f24 f25 f26 f27 f28 u1 u2 = some res) : Met l yX4_dip wsX4_dip ({ frames := 5, cells := 0, slots := 0, locals := 118 }) (va_Pc [.ref a0, .int u1, .int u2] (PB D cI cZ cC cS [(a0, .inr (4, [.ref a1, w0_1, w0_2, .ref a20, w0_4, .int g0_5, .int g0_6])), (a1, .inr (2, [.ref a2, .ref a3, .ref a4, .ref a5, .ref a6, .ref a7, .int g1_6, .int g1_7, .int g1_8, .int g1_9, .ref a8, .ref a9])), (a2, .inl (cI, 2, .inl f2)), (a3, .inl (cI, 36, .inl f3)), (a4, .inl (cI, 8, .inl f4)), (a5, .inl (cI, 18, .inl f5)), (a6, .inl (cI, 18, .inl f6)), (a7, .inl (cI, 6, .inl f7)), (a8, .inl (cI, 4, .inl f8)), (a9, .inl (cI, 4, .inl f9)), (a20, .inl (cS, 7, .inr (.inr (.inr (.inr f20))))), (a22, .inr (2, [.ref a23, .ref a24, .ref a25, .ref a26, .ref a27, .ref a28, .int g22_6, .int g22_7, .int g22_8, .int g22_9, w22_10, w22_11])), (a23, .inl (cI, 2, .inl f23)), (a24, .inl (cI, 36, .inl f24)), (a25, .inl (cI, 8, .inl f25)), (a26, .inl (cI, 18, .inl f26)), (a27, .inl (cI, 18, .inl f27)), (a28, .inl (cI, 6, .inl f28))] sz)) (va_Qi (fun r (_ : Unit) => r = res.1) (fun _ t => va_P D vwCl [(a0, .inr (4, [.ref a1, w0_1, w0_2, .ref a20, w0_4, .int res.2.1, .int res.2.2.1])), (a1, .inr (2, [.ref a2, .ref a3, .ref a4, .ref a5, .ref a6, .ref a7, .int g1_6, .int g1_7, .int g1_8, .int g1_9, .ref a8, .ref a9])), (a2, .inl (cI, 2, .inl f2)), (a3, .inl (cI, 36, .inl res.2.2.2.1)), (a4, .inl (cI, 8, .inl f4)), (a5, .inl (cI, 18, .inl f5)), (a6, .inl (cI, 18, .inl f6)), (a7, .inl (cI, 6, .inl f7)), (a8, .inl (cI, 4, .inl res.2.2.2.2.1)), (a9, .inl (cI, 4, .inl res.2.2.2.2.2.1)), (a20, .inl (cS, 7, .inr (.inr (.inr (.inr f20))))), (a22, .inr (2, [.ref a23, .ref a24, .ref a25, .ref a26, .ref a27, .ref a28, .int res.2.2.2.2.2.2.1, .int res.2.2.2.2.2.2.2.1, .int res.2.2.2.2.2.2.2.2.1, .int res.2.2.2.2.2.2.2.2.2.1, w22_10, w22_11])), (a23, .inl (cI, 2, .inl res.2.2.2.2.2.2.2.2.2.2.1)), (a24, .inl (cI, 36, .inl res.2.2.2.2.2.2.2.2.2.2.2.1)), (a25, .inl (cI, 8, .inl res.2.2.2.2.2.2.2.2.2.2.2.2.1)), (a26, .inl (cI, 18, .inl res.2.2.2.2.2.2.2.2.2.2.2.2.2.1)), (a27, .inl (cI, 18, .inl res.2.2.2.2.2.2.2.2.2.2.2.2.2.2.1)), (a28, .inl (cI, 6, .inl res.2.2.2.2.2.2.2.2.2.2.2.2.2.2.2))] t.heap) (va_A [(a0, .inr (4, [.ref a1, w0_1, w0_2, .ref a20, w0_4, .int g0_5, .int g0_6])), (a1, .inr (2, [.ref a2, .ref a3, .ref a4, .ref a5, .ref a6, .ref a7, .int g1_6, .int g1_7, .int g1_8, .int g1_9, .ref a8, .ref a9])), (a2, .inl (cI, 2, .inl f2)), (a3, .inl (cI, 36, .inl f3)), (a4, .inl (cI, 8, .inl f4)), (a5, .inl (cI, 18, .inl f5)), (a6, .inl (cI, 18, .inl f6)), (a7, .inl (cI, 6, .inl f7)), (a8, .inl (cI, 4, .inl f8)), (a9, .inl (cI, 4, .inl f9)), (a20, .inl (cS, 7, .inr (.inr (.inr (.inr f20))))), (a22, .inr (2, [.ref a23, .ref a24, .ref a25, .ref a26, .ref a27, .ref a28, .int g22_6, .int g22_7, .int g22_8, .int g22_9, w22_10, w22_11])), (a23, .inl (cI, 2, .inl f23)), (a24, .inl (cI, 36, .inl f24)), (a25, .inl (cI, 8, .inl f25)), (a26, .inl (cI, 18, .inl f26)), (a27, .inl (cI, 18, .inl f27)), (a28, .inl (cI, 6, .inl f28))] sz)) 0 0 (va_A [(a0, .inr (4, [.ref a1, w0_1, w0_2, .ref a20, w0_4, .int g0_5, .int g0_6])), (a1, .inr (2, [.ref a2, .ref a3, .ref a4, .ref a5, .ref a6, .ref a7, .int g1_6, .int g1_7, .int g1_8, .int g1_9, .ref a8, .ref a9])), (a2, .inl (cI, 2, .inl f2)), (a3, .inl (cI, 36, .inl f3)), (a4, .inl (cI, 8, .inl f4)), (a5, .inl (cI, 18, .inl f5)), (a6, .inl (cI, 18, .inl f6)), (a7, .inl (cI, 6, .inl f7)), (a8, .inl (cI, 4, .inl f8)), (a9, .inl (cI, 4, .inl f9)), (a20, .inl (cS, 7, .inr (.inr (.inr (.inr f20))))), (a22, .inr (2, [.ref a23, .ref a24, .ref a25, .ref a26, .ref a27, .ref a28, .int g22_6, .int g22_7, .int g22_8, .int g22_9, w22_10, w22_11])), (a23, .inl (cI, 2, .inl f23)), (a24, .inl (cI, 36, .inl f24)), (a25, .inl (cI, 8, .inl f25)), (a26, .inl (cI, 18, .inl f26)), (a27, .inl (cI, 18, .inl f27)), (a28, .inl (cI, 6, .inl f28))] sz) := by
  refine Met.ofW (cc := cX4_dip) (maxL := 3) (ret := (some .int)) (by decide) rfl ?_
  intro p e s m args below meth c s₁ B hml hv
  obtain ⟨rfl, hsz, hP, hD0, hKU⟩ := hv
  have hx := B.exec
  have hb := B.bytes
  have hr := B.returns
  have hts := atoms_spec (ws := wsX4_dip) B.pre
  have hown : s.vm.findClass RX4 = some m.cls := findClass_of_methodNamed B.named
  have hlocks := B.notSynchronized
  have hK := hKU.1
  have hf_12 := hts (.fieldLink RX4 12 "ThinnedPots" "studio" "LThinnedPots$Studio;") (by decide +kernel)
  have hi_X4 : ∀ w ∈ u_ws RX4 TX4 7, w ∈ wsX4_dip := by decide +kernel
  subst hsz
  have hD := hD0.self (sz := s.heap.size)
  generalize hAe : va_A [(a0, .inr (4, [.ref a1, w0_1, w0_2, .ref a20, w0_4, .int g0_5, .int g0_6])), (a1, .inr (2, [.ref a2, .ref a3, .ref a4, .ref a5, .ref a6, .ref a7, .int g1_6, .int g1_7, .int g1_8, .int g1_9, .ref a8, .ref a9])), (a2, .inl (cI, 2, .inl f2)), (a3, .inl (cI, 36, .inl f3)), (a4, .inl (cI, 8, .inl f4)), (a5, .inl (cI, 18, .inl f5)), (a6, .inl (cI, 18, .inl f6)), (a7, .inl (cI, 6, .inl f7)), (a8, .inl (cI, 4, .inl f8)), (a9, .inl (cI, 4, .inl f9)), (a20, .inl (cS, 7, .inr (.inr (.inr (.inr f20))))), (a22, .inr (2, [.ref a23, .ref a24, .ref a25, .ref a26, .ref a27, .ref a28, .int g22_6, .int g22_7, .int g22_8, .int g22_9, w22_10, w22_11])), (a23, .inl (cI, 2, .inl f23)), (a24, .inl (cI, 36, .inl f24)), (a25, .inl (cI, 8, .inl f25)), (a26, .inl (cI, 18, .inl f26)), (a27, .inl (cI, 18, .inl f27)), (a28, .inl (cI, 6, .inl f28))] s.heap.size = A at hD ⊢
  have hA : ∀ q : Nat, s.heap.size ≤ q → A q := fun q h => by rw [← hAe]; exact Or.inr h
  have hP : va_P D vwCl [(a0, .inr (4, [.ref a1, w0_1, w0_2, .ref a20, w0_4, .int g0_5, .int g0_6])), (a1, .inr (2, [.ref a2, .ref a3, .ref a4, .ref a5, .ref a6, .ref a7, .int g1_6, .int g1_7, .int g1_8, .int g1_9, .ref a8, .ref a9])), (a2, .inl (cI, 2, .inl f2)), (a3, .inl (cI, 36, .inl f3)), (a4, .inl (cI, 8, .inl f4)), (a5, .inl (cI, 18, .inl f5)), (a6, .inl (cI, 18, .inl f6)), (a7, .inl (cI, 6, .inl f7)), (a8, .inl (cI, 4, .inl f8)), (a9, .inl (cI, 4, .inl f9)), (a20, .inl (cS, 7, .inr (.inr (.inr (.inr f20))))), (a22, .inr (2, [.ref a23, .ref a24, .ref a25, .ref a26, .ref a27, .ref a28, .int g22_6, .int g22_7, .int g22_8, .int g22_9, w22_10, w22_11])), (a23, .inl (cI, 2, .inl f23)), (a24, .inl (cI, 36, .inl f24)), (a25, .inl (cI, 8, .inl f25)), (a26, .inl (cI, 18, .inl f26)), (a27, .inl (cI, 18, .inl f27)), (a28, .inl (cI, 6, .inl f28))] s.heap := hP
  generalize hHe : s.heap = H at hP ⊢
  have hS : va_S A s.heap H [] := by rw [hHe]; exact va_S.rf
  have hl := lv_entry ([.ref a0, .int u1, .int u2]) (n := 3) (Nat.le_of_ble_eq_true rfl)
  rw [lg_entry_eq]
  generalize (lg_sl ([.ref a0, .int u1, .int u2]) ++ List.replicate (3 - (lg_sl ([.ref a0, .int u1, .int u2])).length) Slot.unset).toArray = ls at hl ⊢
  have hl : lv_has ls 3 [(0, .ref a0), (1, .int u1), (2, .int u2)] := hl
  unfold s_X4_dip at hsp
  refine lv_aload_n hx hb dX4_dip_0 rfl (lv_at hl 0 rfl) ?_
  obtain ⟨r1, hcr1, hsp⟩ := clE hsp
  refine call_v (w1 := [(a0, .inr (4, [.ref a1, w0_1, w0_2, .ref a20, w0_4, .int g0_5, .int g0_6])), (a1, .inr (2, [.ref a2, .ref a3, .ref a4, .ref a5, .ref a6, .ref a7, .int g1_6, .int g1_7, .int g1_8, .int g1_9, .ref a8, .ref a9])), (a2, .inl (cI, 2, .inl f2)), (a3, .inl (cI, 36, .inl f3)), (a4, .inl (cI, 8, .inl f4)), (a5, .inl (cI, 18, .inl f5)), (a6, .inl (cI, 18, .inl f6)), (a7, .inl (cI, 6, .inl f7)), (a20, .inl (cS, 7, .inr (.inr (.inr (.inr f20))))), (a22, .inr (2, [.ref a23, .ref a24, .ref a25, .ref a26, .ref a27, .ref a28, .int r1.1, .int r1.2.1, .int r1.2.2.1, .int r1.2.2.2.1, w22_10, w22_11])), (a23, .inl (cI, 2, .inl r1.2.2.2.2.1)), (a24, .inl (cI, 36, .inl r1.2.2.2.2.2.1)), (a25, .inl (cI, 8, .inl r1.2.2.2.2.2.2.1)), (a26, .inl (cI, 18, .inl r1.2.2.2.2.2.2.2.1)), (a27, .inl (cI, 18, .inl r1.2.2.2.2.2.2.2.2.1)), (a28, .inl (cI, 6, .inl r1.2.2.2.2.2.2.2.2.2))]) (ws' := [(a0, .inr (4, [.ref a1, w0_1, w0_2, .ref a20, w0_4, .int g0_5, .int g0_6])), (a1, .inr (2, [.ref a2, .ref a3, .ref a4, .ref a5, .ref a6, .ref a7, .int g1_6, .int g1_7, .int g1_8, .int g1_9, .ref a8, .ref a9])), (a2, .inl (cI, 2, .inl f2)), (a3, .inl (cI, 36, .inl f3)), (a4, .inl (cI, 8, .inl f4)), (a5, .inl (cI, 18, .inl f5)), (a6, .inl (cI, 18, .inl f6)), (a7, .inl (cI, 6, .inl f7)), (a8, .inl (cI, 4, .inl f8)), (a9, .inl (cI, 4, .inl f9)), (a20, .inl (cS, 7, .inr (.inr (.inr (.inr f20))))), (a22, .inr (2, [.ref a23, .ref a24, .ref a25, .ref a26, .ref a27, .ref a28, .int r1.1, .int r1.2.1, .int r1.2.2.1, .int r1.2.2.2.1, w22_10, w22_11])), (a23, .inl (cI, 2, .inl r1.2.2.2.2.1)), (a24, .inl (cI, 36, .inl r1.2.2.2.2.2.1)), (a25, .inl (cI, 8, .inl r1.2.2.2.2.2.2.1)), (a26, .inl (cI, 18, .inl r1.2.2.2.2.2.2.2.1)), (a27, .inl (cI, 18, .inl r1.2.2.2.2.2.2.2.2.1)), (a28, .inl (cI, 6, .inl r1.2.2.2.2.2.2.2.2.2))]) (va_runV (As := []) (rest := []) ⟨hx, hb, hml, hown, hts⟩ (k_X4_keepState l D cI cZ cC cS H.size a0 a1 a2 a3 a4 a5 a6 a7 a20 a22 a23 a24 a25 a26 a27 a28 (w0_1) (w0_2) (w0_4) g0_5 (.int g0_6) g1_6 g1_7 g1_8 g1_9 (.ref a8) (.ref a9) f2 f3 f4 f5 f6 f7 f20 g22_6 g22_7 g22_8 g22_9 (w22_10) (w22_11) f23 f24 f25 f26 f27 f28 hq r1 hcr1) (cwV 0 hts gX4_dip_X4_keepState rfl rfl rfl nd_X4_keepState ⟨Nat.le_of_ble_eq_true rfl, Nat.le_of_ble_eq_true rfl⟩) (PB.preV (ci := 4) (q0 := 0) hKU hP hD [0, 1, 2, 3, 4, 5, 6, 7, 10, 11, 12, 13, 14, 15, 16, 17] rfl rfl rfl rfl) rfl rfl hl.1 rfl (lv_room (Nat.le_of_ble_eq_true rfl)) dX4_dip_1 ⟨Nat.zero_le _, Nat.zero_le _⟩) hS hP hD hA [0, 1, 2, 3, 4, 5, 6, 7, 10, 11, 12, 13, 14, 15, 16, 17] rfl rfl (by first | (simp only [wset, List.set_cons_zero, List.set_cons_succ]; done) | rfl) rfl (fun H locs hP hD hS => ?_)
  refine lv_aload_n hx hb dX4_dip_4 rfl (lv_at hl 0 rfl) ?_
  refine lv_aload_n hx hb dX4_dip_5 rfl (lv_at hl 0 rfl) ?_
  refine va_get (D := D) (ci := 4) (v := .ref a1) (C := RX4) (T := TX4) (N := 7) hx hb hts hi_X4 hown hK hP 0 rfl rfl 0 (by decide) hf_12 (fun _ h9 => h9) rfl dX4_dip_6 ?_
  refine lv_iload_n hx hb dX4_dip_9 rfl (lv_at hl 1 rfl) ?_
  refine lv_iload_n hx hb dX4_dip_10 rfl (lv_at hl 2 rfl) ?_
  obtain ⟨r2, hcr2, hsp⟩ := clE hsp
  refine call_i (w1 := [(a1, .inr (2, [.ref a2, .ref a3, .ref a4, .ref a5, .ref a6, .ref a7, .int g1_6, .int g1_7, .int g1_8, .int g1_9, .ref a8, .ref a9])), (a3, .inl (cI, 36, .inl r2.2.1)), (a8, .inl (cI, 4, .inl r2.2.2.1)), (a9, .inl (cI, 4, .inl r2.2.2.2))]) (ws' := [(a0, .inr (4, [.ref a1, w0_1, w0_2, .ref a20, w0_4, .int g0_5, .int g0_6])), (a1, .inr (2, [.ref a2, .ref a3, .ref a4, .ref a5, .ref a6, .ref a7, .int g1_6, .int g1_7, .int g1_8, .int g1_9, .ref a8, .ref a9])), (a2, .inl (cI, 2, .inl f2)), (a3, .inl (cI, 36, .inl r2.2.1)), (a4, .inl (cI, 8, .inl f4)), (a5, .inl (cI, 18, .inl f5)), (a6, .inl (cI, 18, .inl f6)), (a7, .inl (cI, 6, .inl f7)), (a8, .inl (cI, 4, .inl r2.2.2.1)), (a9, .inl (cI, 4, .inl r2.2.2.2)), (a20, .inl (cS, 7, .inr (.inr (.inr (.inr f20))))), (a22, .inr (2, [.ref a23, .ref a24, .ref a25, .ref a26, .ref a27, .ref a28, .int r1.1, .int r1.2.1, .int r1.2.2.1, .int r1.2.2.2.1, w22_10, w22_11])), (a23, .inl (cI, 2, .inl r1.2.2.2.2.1)), (a24, .inl (cI, 36, .inl r1.2.2.2.2.2.1)), (a25, .inl (cI, 8, .inl r1.2.2.2.2.2.2.1)), (a26, .inl (cI, 18, .inl r1.2.2.2.2.2.2.2.1)), (a27, .inl (cI, 18, .inl r1.2.2.2.2.2.2.2.2.1)), (a28, .inl (cI, 6, .inl r1.2.2.2.2.2.2.2.2.2))]) (va_runV (As := [.int u1, .int u2]) (rest := [.ref a0]) ⟨hx, hb, hml, hown, hts⟩ (k_X2_dipBrush l D cI cZ cC cS H.size a1 a3 a8 a9 (.ref a2) (.ref a4) (.ref a5) (.ref a6) (.ref a7) (.int g1_6) (.int g1_7) (.int g1_8) (.int g1_9) f3 f8 f9 u1 u2 r2 hcr2) (cwV 2 hts gX4_dip_X2_dipBrush rfl rfl rfl nd_X2_dipBrush ⟨Nat.le_of_ble_eq_true rfl, Nat.le_of_ble_eq_true rfl⟩) (PB.preV (ci := 2) (q0 := 1) hKU hP hD [1, 3, 8, 9] rfl rfl rfl rfl) rfl rfl hl.1 rfl (lv_room (Nat.le_of_ble_eq_true rfl)) dX4_dip_11 ⟨Nat.zero_le _, Nat.zero_le _⟩) hS hP hD hA [1, 3, 8, 9] rfl rfl (by first | (simp only [wset, List.set_cons_zero, List.set_cons_succ]; done) | rfl) rfl (fun H locs hP hD hS => ?_)
  obtain ⟨r3, hcr3, hsp⟩ := clE hsp
  refine call_i (w1 := [(a0, .inr (4, [.ref a1, w0_1, w0_2, .ref a20, w0_4, .int r3.2.1, .int r3.2.2]))]) (ws' := [(a0, .inr (4, [.ref a1, w0_1, w0_2, .ref a20, w0_4, .int r3.2.1, .int r3.2.2])), (a1, .inr (2, [.ref a2, .ref a3, .ref a4, .ref a5, .ref a6, .ref a7, .int g1_6, .int g1_7, .int g1_8, .int g1_9, .ref a8, .ref a9])), (a2, .inl (cI, 2, .inl f2)), (a3, .inl (cI, 36, .inl r2.2.1)), (a4, .inl (cI, 8, .inl f4)), (a5, .inl (cI, 18, .inl f5)), (a6, .inl (cI, 18, .inl f6)), (a7, .inl (cI, 6, .inl f7)), (a8, .inl (cI, 4, .inl r2.2.2.1)), (a9, .inl (cI, 4, .inl r2.2.2.2)), (a20, .inl (cS, 7, .inr (.inr (.inr (.inr f20))))), (a22, .inr (2, [.ref a23, .ref a24, .ref a25, .ref a26, .ref a27, .ref a28, .int r1.1, .int r1.2.1, .int r1.2.2.1, .int r1.2.2.2.1, w22_10, w22_11])), (a23, .inl (cI, 2, .inl r1.2.2.2.2.1)), (a24, .inl (cI, 36, .inl r1.2.2.2.2.2.1)), (a25, .inl (cI, 8, .inl r1.2.2.2.2.2.2.1)), (a26, .inl (cI, 18, .inl r1.2.2.2.2.2.2.2.1)), (a27, .inl (cI, 18, .inl r1.2.2.2.2.2.2.2.2.1)), (a28, .inl (cI, 6, .inl r1.2.2.2.2.2.2.2.2.2))]) (va_runV (As := [.int r2.1]) (rest := []) ⟨hx, hb, hml, hown, hts⟩ (k_X4_recorded l D cI cZ cC cS H.size a0 (.ref a1) (w0_1) (w0_2) (.ref a20) (w0_4) g0_5 g0_6 r2.1 r3 hcr3) (cwV 1 hts gX4_dip_X4_recorded rfl rfl rfl nd_X4_recorded ⟨Nat.le_of_ble_eq_true rfl, Nat.le_of_ble_eq_true rfl⟩) (PB.preV (ci := 4) (q0 := 0) hKU hP hD [0] rfl rfl rfl rfl) rfl rfl hl.1 rfl (lv_room (Nat.le_of_ble_eq_true rfl)) dX4_dip_14 ⟨Nat.zero_le _, Nat.zero_le _⟩) hS hP hD hA [0] rfl rfl (by first | (simp only [wset, List.set_cons_zero, List.set_cons_succ]; done) | rfl) rfl (fun H locs hP hD hS => ?_)
  have hres := Option.some.inj hsp
  subst hres
  exact W.iret (v := r3.1) hx hb hr (fun t ht hW => ⟨⟨r3.1, (), rfl, rfl, P_at ht hP⟩, hS.F ht⟩) hS.2.2 dX4_dip_17

theorem nd_X4_empty : yX4_empty.cls = RX4 ∧ yX4_empty.cls ≠ "java/lang/invoke/MethodHandle" ∧ yX4_empty.cls ≠ "java/lang/invoke/VarHandle" ∧ (parseMethodDescriptor yX4_empty.desc).map (fun d => d.parameters.length) = some 1 := by decide +kernel
set_option maxHeartbeats 8000000 in
set_option maxRecDepth 100000 in
theorem k_X4_empty (l : Launch) (D : va_G) (cI cZ cC cS : ClassId) (sz : Nat) (a0 a1 a2 a3 a4 a5 a6 a7 a20 a22 a23 a24 a25 a26 a27 a28 : Nat) (w0_1 : Value) (w0_2 : Value) (w0_4 : Value) (g0_5 : Int32) (g0_6 : Int32) (g1_6 : Int32) (g1_7 : Int32) (g1_8 : Int32) (g1_9 : Int32) (w1_10 : Value) (w1_11 : Value) (f2 : Nat → Int32) (f3 : Nat → Int32) (f4 : Nat → Int32) (f5 : Nat → Int32) (f6 : Nat → Int32) (f7 : Nat → Int32) (f20 : Nat → Option Nat) (g22_6 : Int32) (g22_7 : Int32) (g22_8 : Int32) (g22_9 : Int32) (w22_10 : Value) (w22_11 : Value) (f23 : Nat → Int32) (f24 : Nat → Int32) (f25 : Nat → Int32) (f26 : Nat → Int32) (f27 : Nat → Int32) (f28 : Nat → Int32) (u1 : Int32) (hq : s_X4_studioAt 7 f20 g0_5 = some (some a22)) (res : Int32 × Int32 × Int32 × Int32 × (Nat → Int32) × Int32 × Int32 × Int32 × Int32 × (Nat → Int32) × (Nat → Int32) × (Nat → Int32) × (Nat → Int32) × (Nat → Int32) × (Nat → Int32)) (hsp : s_X4_empty g0_5 g0_6 g1_6 g1_7 g1_8 g1_9 f2 f3 f4 f5 f6 f7 f20 f23 f24 f25 f26 f27 f28 u1 = some res) : Met l yX4_empty wsX4_empty ({ frames := 4, cells := 0, slots := 0, locals := 87 }) (va_Pc [.ref a0, .int u1] (PB D cI cZ cC cS [(a0, .inr (4, [.ref a1, w0_1, w0_2, .ref a20, w0_4, .int g0_5, .int g0_6])), (a1, .inr (2, [.ref a2, .ref a3, .ref a4, .ref a5, .ref a6, .ref a7, .int g1_6, .int g1_7, .int g1_8, .int g1_9, w1_10, w1_11])), (a2, .inl (cI, 2, .inl f2)), (a3, .inl (cI, 36, .inl f3)), (a4, .inl (cI, 8, .inl f4)), (a5, .inl (cI, 18, .inl f5)), (a6, .inl (cI, 18, .inl f6)), (a7, .inl (cI, 6, .inl f7)), (a20, .inl (cS, 7, .inr (.inr (.inr (.inr f20))))), (a22, .inr (2, [.ref a23, .ref a24, .ref a25, .ref a26, .ref a27, .ref a28, .int g22_6, .int g22_7, .int g22_8, .int g22_9, w22_10, w22_11])), (a23, .inl (cI, 2, .inl f23)), (a24, .inl (cI, 36, .inl f24)), (a25, .inl (cI, 8, .inl f25)), (a26, .inl (cI, 18, .inl f26)), (a27, .inl (cI, 18, .inl f27)), (a28, .inl (cI, 6, .inl f28))] sz)) (va_Qi (fun r (_ : Unit) => r = res.1) (fun _ t => va_P D vwCl [(a0, .inr (4, [.ref a1, w0_1, w0_2, .ref a20, w0_4, .int res.2.1, .int res.2.2.1])), (a1, .inr (2, [.ref a2, .ref a3, .ref a4, .ref a5, .ref a6, .ref a7, .int g1_6, .int g1_7, .int res.2.2.2.1, .int g1_9, w1_10, w1_11])), (a2, .inl (cI, 2, .inl f2)), (a3, .inl (cI, 36, .inl res.2.2.2.2.1)), (a4, .inl (cI, 8, .inl f4)), (a5, .inl (cI, 18, .inl f5)), (a6, .inl (cI, 18, .inl f6)), (a7, .inl (cI, 6, .inl f7)), (a20, .inl (cS, 7, .inr (.inr (.inr (.inr f20))))), (a22, .inr (2, [.ref a23, .ref a24, .ref a25, .ref a26, .ref a27, .ref a28, .int res.2.2.2.2.2.1, .int res.2.2.2.2.2.2.1, .int res.2.2.2.2.2.2.2.1, .int res.2.2.2.2.2.2.2.2.1, w22_10, w22_11])), (a23, .inl (cI, 2, .inl res.2.2.2.2.2.2.2.2.2.1)), (a24, .inl (cI, 36, .inl res.2.2.2.2.2.2.2.2.2.2.1)), (a25, .inl (cI, 8, .inl res.2.2.2.2.2.2.2.2.2.2.2.1)), (a26, .inl (cI, 18, .inl res.2.2.2.2.2.2.2.2.2.2.2.2.1)), (a27, .inl (cI, 18, .inl res.2.2.2.2.2.2.2.2.2.2.2.2.2.1)), (a28, .inl (cI, 6, .inl res.2.2.2.2.2.2.2.2.2.2.2.2.2.2))] t.heap) (va_A [(a0, .inr (4, [.ref a1, w0_1, w0_2, .ref a20, w0_4, .int g0_5, .int g0_6])), (a1, .inr (2, [.ref a2, .ref a3, .ref a4, .ref a5, .ref a6, .ref a7, .int g1_6, .int g1_7, .int g1_8, .int g1_9, w1_10, w1_11])), (a2, .inl (cI, 2, .inl f2)), (a3, .inl (cI, 36, .inl f3)), (a4, .inl (cI, 8, .inl f4)), (a5, .inl (cI, 18, .inl f5)), (a6, .inl (cI, 18, .inl f6)), (a7, .inl (cI, 6, .inl f7)), (a20, .inl (cS, 7, .inr (.inr (.inr (.inr f20))))), (a22, .inr (2, [.ref a23, .ref a24, .ref a25, .ref a26, .ref a27, .ref a28, .int g22_6, .int g22_7, .int g22_8, .int g22_9, w22_10, w22_11])), (a23, .inl (cI, 2, .inl f23)), (a24, .inl (cI, 36, .inl f24)), (a25, .inl (cI, 8, .inl f25)), (a26, .inl (cI, 18, .inl f26)), (a27, .inl (cI, 18, .inl f27)), (a28, .inl (cI, 6, .inl f28))] sz)) 0 0 (va_A [(a0, .inr (4, [.ref a1, w0_1, w0_2, .ref a20, w0_4, .int g0_5, .int g0_6])), (a1, .inr (2, [.ref a2, .ref a3, .ref a4, .ref a5, .ref a6, .ref a7, .int g1_6, .int g1_7, .int g1_8, .int g1_9, w1_10, w1_11])), (a2, .inl (cI, 2, .inl f2)), (a3, .inl (cI, 36, .inl f3)), (a4, .inl (cI, 8, .inl f4)), (a5, .inl (cI, 18, .inl f5)), (a6, .inl (cI, 18, .inl f6)), (a7, .inl (cI, 6, .inl f7)), (a20, .inl (cS, 7, .inr (.inr (.inr (.inr f20))))), (a22, .inr (2, [.ref a23, .ref a24, .ref a25, .ref a26, .ref a27, .ref a28, .int g22_6, .int g22_7, .int g22_8, .int g22_9, w22_10, w22_11])), (a23, .inl (cI, 2, .inl f23)), (a24, .inl (cI, 36, .inl f24)), (a25, .inl (cI, 8, .inl f25)), (a26, .inl (cI, 18, .inl f26)), (a27, .inl (cI, 18, .inl f27)), (a28, .inl (cI, 6, .inl f28))] sz) := by
  refine Met.ofW (cc := cX4_empty) (maxL := 2) (ret := (some .int)) (by decide) rfl ?_
  intro p e s m args below meth c s₁ B hml hv
  obtain ⟨rfl, hsz, hP, hD0, hKU⟩ := hv
  have hx := B.exec
  have hb := B.bytes
  have hr := B.returns
  have hts := atoms_spec (ws := wsX4_empty) B.pre
  have hown : s.vm.findClass RX4 = some m.cls := findClass_of_methodNamed B.named
  have hlocks := B.notSynchronized
  have hK := hKU.1
  have hf_12 := hts (.fieldLink RX4 12 "ThinnedPots" "studio" "LThinnedPots$Studio;") (by decide +kernel)
  have hi_X4 : ∀ w ∈ u_ws RX4 TX4 7, w ∈ wsX4_empty := by decide +kernel
  subst hsz
  have hD := hD0.self (sz := s.heap.size)
  generalize hAe : va_A [(a0, .inr (4, [.ref a1, w0_1, w0_2, .ref a20, w0_4, .int g0_5, .int g0_6])), (a1, .inr (2, [.ref a2, .ref a3, .ref a4, .ref a5, .ref a6, .ref a7, .int g1_6, .int g1_7, .int g1_8, .int g1_9, w1_10, w1_11])), (a2, .inl (cI, 2, .inl f2)), (a3, .inl (cI, 36, .inl f3)), (a4, .inl (cI, 8, .inl f4)), (a5, .inl (cI, 18, .inl f5)), (a6, .inl (cI, 18, .inl f6)), (a7, .inl (cI, 6, .inl f7)), (a20, .inl (cS, 7, .inr (.inr (.inr (.inr f20))))), (a22, .inr (2, [.ref a23, .ref a24, .ref a25, .ref a26, .ref a27, .ref a28, .int g22_6, .int g22_7, .int g22_8, .int g22_9, w22_10, w22_11])), (a23, .inl (cI, 2, .inl f23)), (a24, .inl (cI, 36, .inl f24)), (a25, .inl (cI, 8, .inl f25)), (a26, .inl (cI, 18, .inl f26)), (a27, .inl (cI, 18, .inl f27)), (a28, .inl (cI, 6, .inl f28))] s.heap.size = A at hD ⊢
  have hA : ∀ q : Nat, s.heap.size ≤ q → A q := fun q h => by rw [← hAe]; exact Or.inr h
  have hP : va_P D vwCl [(a0, .inr (4, [.ref a1, w0_1, w0_2, .ref a20, w0_4, .int g0_5, .int g0_6])), (a1, .inr (2, [.ref a2, .ref a3, .ref a4, .ref a5, .ref a6, .ref a7, .int g1_6, .int g1_7, .int g1_8, .int g1_9, w1_10, w1_11])), (a2, .inl (cI, 2, .inl f2)), (a3, .inl (cI, 36, .inl f3)), (a4, .inl (cI, 8, .inl f4)), (a5, .inl (cI, 18, .inl f5)), (a6, .inl (cI, 18, .inl f6)), (a7, .inl (cI, 6, .inl f7)), (a20, .inl (cS, 7, .inr (.inr (.inr (.inr f20))))), (a22, .inr (2, [.ref a23, .ref a24, .ref a25, .ref a26, .ref a27, .ref a28, .int g22_6, .int g22_7, .int g22_8, .int g22_9, w22_10, w22_11])), (a23, .inl (cI, 2, .inl f23)), (a24, .inl (cI, 36, .inl f24)), (a25, .inl (cI, 8, .inl f25)), (a26, .inl (cI, 18, .inl f26)), (a27, .inl (cI, 18, .inl f27)), (a28, .inl (cI, 6, .inl f28))] s.heap := hP
  generalize hHe : s.heap = H at hP ⊢
  have hS : va_S A s.heap H [] := by rw [hHe]; exact va_S.rf
  have hl := lv_entry ([.ref a0, .int u1]) (n := 2) (Nat.le_of_ble_eq_true rfl)
  rw [lg_entry_eq]
  generalize (lg_sl ([.ref a0, .int u1]) ++ List.replicate (2 - (lg_sl ([.ref a0, .int u1])).length) Slot.unset).toArray = ls at hl ⊢
  have hl : lv_has ls 2 [(0, .ref a0), (1, .int u1)] := hl
  unfold s_X4_empty at hsp
  refine lv_aload_n hx hb dX4_empty_0 rfl (lv_at hl 0 rfl) ?_
  obtain ⟨r1, hcr1, hsp⟩ := clE hsp
  refine call_v (w1 := [(a0, .inr (4, [.ref a1, w0_1, w0_2, .ref a20, w0_4, .int g0_5, .int g0_6])), (a1, .inr (2, [.ref a2, .ref a3, .ref a4, .ref a5, .ref a6, .ref a7, .int g1_6, .int g1_7, .int g1_8, .int g1_9, w1_10, w1_11])), (a2, .inl (cI, 2, .inl f2)), (a3, .inl (cI, 36, .inl f3)), (a4, .inl (cI, 8, .inl f4)), (a5, .inl (cI, 18, .inl f5)), (a6, .inl (cI, 18, .inl f6)), (a7, .inl (cI, 6, .inl f7)), (a20, .inl (cS, 7, .inr (.inr (.inr (.inr f20))))), (a22, .inr (2, [.ref a23, .ref a24, .ref a25, .ref a26, .ref a27, .ref a28, .int r1.1, .int r1.2.1, .int r1.2.2.1, .int r1.2.2.2.1, w22_10, w22_11])), (a23, .inl (cI, 2, .inl r1.2.2.2.2.1)), (a24, .inl (cI, 36, .inl r1.2.2.2.2.2.1)), (a25, .inl (cI, 8, .inl r1.2.2.2.2.2.2.1)), (a26, .inl (cI, 18, .inl r1.2.2.2.2.2.2.2.1)), (a27, .inl (cI, 18, .inl r1.2.2.2.2.2.2.2.2.1)), (a28, .inl (cI, 6, .inl r1.2.2.2.2.2.2.2.2.2))]) (ws' := [(a0, .inr (4, [.ref a1, w0_1, w0_2, .ref a20, w0_4, .int g0_5, .int g0_6])), (a1, .inr (2, [.ref a2, .ref a3, .ref a4, .ref a5, .ref a6, .ref a7, .int g1_6, .int g1_7, .int g1_8, .int g1_9, w1_10, w1_11])), (a2, .inl (cI, 2, .inl f2)), (a3, .inl (cI, 36, .inl f3)), (a4, .inl (cI, 8, .inl f4)), (a5, .inl (cI, 18, .inl f5)), (a6, .inl (cI, 18, .inl f6)), (a7, .inl (cI, 6, .inl f7)), (a20, .inl (cS, 7, .inr (.inr (.inr (.inr f20))))), (a22, .inr (2, [.ref a23, .ref a24, .ref a25, .ref a26, .ref a27, .ref a28, .int r1.1, .int r1.2.1, .int r1.2.2.1, .int r1.2.2.2.1, w22_10, w22_11])), (a23, .inl (cI, 2, .inl r1.2.2.2.2.1)), (a24, .inl (cI, 36, .inl r1.2.2.2.2.2.1)), (a25, .inl (cI, 8, .inl r1.2.2.2.2.2.2.1)), (a26, .inl (cI, 18, .inl r1.2.2.2.2.2.2.2.1)), (a27, .inl (cI, 18, .inl r1.2.2.2.2.2.2.2.2.1)), (a28, .inl (cI, 6, .inl r1.2.2.2.2.2.2.2.2.2))]) (va_runV (As := []) (rest := []) ⟨hx, hb, hml, hown, hts⟩ (k_X4_keepState l D cI cZ cC cS H.size a0 a1 a2 a3 a4 a5 a6 a7 a20 a22 a23 a24 a25 a26 a27 a28 (w0_1) (w0_2) (w0_4) g0_5 (.int g0_6) g1_6 g1_7 g1_8 g1_9 (w1_10) (w1_11) f2 f3 f4 f5 f6 f7 f20 g22_6 g22_7 g22_8 g22_9 (w22_10) (w22_11) f23 f24 f25 f26 f27 f28 hq r1 hcr1) (cwV 0 hts gX4_empty_X4_keepState rfl rfl rfl nd_X4_keepState ⟨Nat.le_of_ble_eq_true rfl, Nat.le_of_ble_eq_true rfl⟩) (PB.preV (ci := 4) (q0 := 0) hKU hP hD [0, 1, 2, 3, 4, 5, 6, 7, 8, 9, 10, 11, 12, 13, 14, 15] rfl rfl rfl rfl) rfl rfl hl.1 rfl (lv_room (Nat.le_of_ble_eq_true rfl)) dX4_empty_1 ⟨Nat.zero_le _, Nat.zero_le _⟩) hS hP hD hA [0, 1, 2, 3, 4, 5, 6, 7, 8, 9, 10, 11, 12, 13, 14, 15] rfl rfl (by first | (simp only [wset, List.set_cons_zero, List.set_cons_succ]; done) | rfl) rfl (fun H locs hP hD hS => ?_)
  refine lv_aload_n hx hb dX4_empty_4 rfl (lv_at hl 0 rfl) ?_
  refine lv_aload_n hx hb dX4_empty_5 rfl (lv_at hl 0 rfl) ?_
  refine va_get (D := D) (ci := 4) (v := .ref a1) (C := RX4) (T := TX4) (N := 7) hx hb hts hi_X4 hown hK hP 0 rfl rfl 0 (by decide) hf_12 (fun _ h9 => h9) rfl dX4_empty_6 ?_
  refine lv_iload_n hx hb dX4_empty_9 rfl (lv_at hl 1 rfl) ?_
  obtain ⟨r2, hcr2, hsp⟩ := clE hsp
  refine call_i (w1 := [(a1, .inr (2, [.ref a2, .ref a3, .ref a4, .ref a5, .ref a6, .ref a7, .int g1_6, .int g1_7, .int r2.2.1, .int g1_9, w1_10, w1_11])), (a3, .inl (cI, 36, .inl r2.2.2))]) (ws' := [(a0, .inr (4, [.ref a1, w0_1, w0_2, .ref a20, w0_4, .int g0_5, .int g0_6])), (a1, .inr (2, [.ref a2, .ref a3, .ref a4, .ref a5, .ref a6, .ref a7, .int g1_6, .int g1_7, .int r2.2.1, .int g1_9, w1_10, w1_11])), (a2, .inl (cI, 2, .inl f2)), (a3, .inl (cI, 36, .inl r2.2.2)), (a4, .inl (cI, 8, .inl f4)), (a5, .inl (cI, 18, .inl f5)), (a6, .inl (cI, 18, .inl f6)), (a7, .inl (cI, 6, .inl f7)), (a20, .inl (cS, 7, .inr (.inr (.inr (.inr f20))))), (a22, .inr (2, [.ref a23, .ref a24, .ref a25, .ref a26, .ref a27, .ref a28, .int r1.1, .int r1.2.1, .int r1.2.2.1, .int r1.2.2.2.1, w22_10, w22_11])), (a23, .inl (cI, 2, .inl r1.2.2.2.2.1)), (a24, .inl (cI, 36, .inl r1.2.2.2.2.2.1)), (a25, .inl (cI, 8, .inl r1.2.2.2.2.2.2.1)), (a26, .inl (cI, 18, .inl r1.2.2.2.2.2.2.2.1)), (a27, .inl (cI, 18, .inl r1.2.2.2.2.2.2.2.2.1)), (a28, .inl (cI, 6, .inl r1.2.2.2.2.2.2.2.2.2))]) (va_runV (As := [.int u1]) (rest := [.ref a0]) ⟨hx, hb, hml, hown, hts⟩ (k_X2_emptyPot l D cI cZ cC cS H.size a1 a3 (.ref a2) (.ref a4) (.ref a5) (.ref a6) (.ref a7) (.int g1_6) (.int g1_7) g1_8 (.int g1_9) (w1_10) (w1_11) f3 u1 r2 hcr2) (cwV 1 hts gX4_empty_X2_emptyPot rfl rfl rfl nd_X2_emptyPot ⟨Nat.le_of_ble_eq_true rfl, Nat.le_of_ble_eq_true rfl⟩) (PB.preV (ci := 2) (q0 := 1) hKU hP hD [1, 3] rfl rfl rfl rfl) rfl rfl hl.1 rfl (lv_room (Nat.le_of_ble_eq_true rfl)) dX4_empty_10 ⟨Nat.zero_le _, Nat.zero_le _⟩) hS hP hD hA [1, 3] rfl rfl (by first | (simp only [wset, List.set_cons_zero, List.set_cons_succ]; done) | rfl) rfl (fun H locs hP hD hS => ?_)
  obtain ⟨r3, hcr3, hsp⟩ := clE hsp
  refine call_i (w1 := [(a0, .inr (4, [.ref a1, w0_1, w0_2, .ref a20, w0_4, .int r3.2.1, .int r3.2.2]))]) (ws' := [(a0, .inr (4, [.ref a1, w0_1, w0_2, .ref a20, w0_4, .int r3.2.1, .int r3.2.2])), (a1, .inr (2, [.ref a2, .ref a3, .ref a4, .ref a5, .ref a6, .ref a7, .int g1_6, .int g1_7, .int r2.2.1, .int g1_9, w1_10, w1_11])), (a2, .inl (cI, 2, .inl f2)), (a3, .inl (cI, 36, .inl r2.2.2)), (a4, .inl (cI, 8, .inl f4)), (a5, .inl (cI, 18, .inl f5)), (a6, .inl (cI, 18, .inl f6)), (a7, .inl (cI, 6, .inl f7)), (a20, .inl (cS, 7, .inr (.inr (.inr (.inr f20))))), (a22, .inr (2, [.ref a23, .ref a24, .ref a25, .ref a26, .ref a27, .ref a28, .int r1.1, .int r1.2.1, .int r1.2.2.1, .int r1.2.2.2.1, w22_10, w22_11])), (a23, .inl (cI, 2, .inl r1.2.2.2.2.1)), (a24, .inl (cI, 36, .inl r1.2.2.2.2.2.1)), (a25, .inl (cI, 8, .inl r1.2.2.2.2.2.2.1)), (a26, .inl (cI, 18, .inl r1.2.2.2.2.2.2.2.1)), (a27, .inl (cI, 18, .inl r1.2.2.2.2.2.2.2.2.1)), (a28, .inl (cI, 6, .inl r1.2.2.2.2.2.2.2.2.2))]) (va_runV (As := [.int r2.1]) (rest := []) ⟨hx, hb, hml, hown, hts⟩ (k_X4_recorded l D cI cZ cC cS H.size a0 (.ref a1) (w0_1) (w0_2) (.ref a20) (w0_4) g0_5 g0_6 r2.1 r3 hcr3) (cwV 1 hts gX4_empty_X4_recorded rfl rfl rfl nd_X4_recorded ⟨Nat.le_of_ble_eq_true rfl, Nat.le_of_ble_eq_true rfl⟩) (PB.preV (ci := 4) (q0 := 0) hKU hP hD [0] rfl rfl rfl rfl) rfl rfl hl.1 rfl (lv_room (Nat.le_of_ble_eq_true rfl)) dX4_empty_13 ⟨Nat.zero_le _, Nat.zero_le _⟩) hS hP hD hA [0] rfl rfl (by first | (simp only [wset, List.set_cons_zero, List.set_cons_succ]; done) | rfl) rfl (fun H locs hP hD hS => ?_)
  have hres := Option.some.inj hsp
  subst hres
  exact W.iret (v := r3.1) hx hb hr (fun t ht hW => ⟨⟨r3.1, (), rfl, rfl, P_at ht hP⟩, hS.F ht⟩) hS.2.2 dX4_empty_16

theorem nd_X4_fault : yX4_fault.cls = RX4 ∧ yX4_fault.cls ≠ "java/lang/invoke/MethodHandle" ∧ yX4_fault.cls ≠ "java/lang/invoke/VarHandle" ∧ (parseMethodDescriptor yX4_fault.desc).map (fun d => d.parameters.length) = some 0 := by decide +kernel
set_option maxHeartbeats 8000000 in
set_option maxRecDepth 100000 in
theorem k_X4_fault (l : Launch) (D : va_G) (cI cZ cC cS : ClassId) (sz : Nat) (a0 a16 a17 a18 a19 : Nat) (w0_0 : Value) (w0_1 : Value) (w0_3 : Value) (w0_4 : Value) (w0_5 : Value) (w0_6 : Value) (g16_1 : Int32) (g16_2 : Int32) (f17 : Nat → Int32) (g18_0 : Int32) (g18_1 : Int32) (g18_2 : Int32) (g18_3 : Int32) (f19 : Nat → Int32) (res : Int32 × Int32 × Int32 × Int32 × Int32 × Int32 × (Nat → Int32)) (hsp : s_X4_fault g16_1 f17 g18_0 g18_1 g18_2 g18_3 f19 = some res) : Met l yX4_fault wsX4_fault ({ frames := 6, cells := 0, slots := 0, locals := 136 }) (va_Pc [.ref a0] (PB D cI cZ cC cS [(a0, .inr (4, [w0_0, w0_1, .ref a16, w0_3, w0_4, w0_5, w0_6])), (a16, .inr (1, [.ref a17, .int g16_1, .int g16_2, .ref a18])), (a17, .inl (cI, 60, .inl f17)), (a18, .inr (3, [.int g18_0, .int g18_1, .int g18_2, .int g18_3, .ref a19])), (a19, .inl (cI, 4, .inl f19))] sz)) (va_Qi (fun r (_ : Unit) => r = res.1) (fun _ t => va_P D vwCl [(a0, .inr (4, [w0_0, w0_1, .ref a16, w0_3, w0_4, w0_5, w0_6])), (a16, .inr (1, [.ref a17, .int g16_1, .int res.2.1, .ref a18])), (a17, .inl (cI, 60, .inl f17)), (a18, .inr (3, [.int res.2.2.1, .int res.2.2.2.1, .int res.2.2.2.2.1, .int res.2.2.2.2.2.1, .ref a19])), (a19, .inl (cI, 4, .inl res.2.2.2.2.2.2))] t.heap) (va_A [(a0, .inr (4, [w0_0, w0_1, .ref a16, w0_3, w0_4, w0_5, w0_6])), (a16, .inr (1, [.ref a17, .int g16_1, .int g16_2, .ref a18])), (a17, .inl (cI, 60, .inl f17)), (a18, .inr (3, [.int g18_0, .int g18_1, .int g18_2, .int g18_3, .ref a19])), (a19, .inl (cI, 4, .inl f19))] sz)) 0 0 (va_A [(a0, .inr (4, [w0_0, w0_1, .ref a16, w0_3, w0_4, w0_5, w0_6])), (a16, .inr (1, [.ref a17, .int g16_1, .int g16_2, .ref a18])), (a17, .inl (cI, 60, .inl f17)), (a18, .inr (3, [.int g18_0, .int g18_1, .int g18_2, .int g18_3, .ref a19])), (a19, .inl (cI, 4, .inl f19))] sz) := by
  refine Met.ofW (cc := cX4_fault) (maxL := 1) (ret := (some .int)) (by decide) rfl ?_
  intro p e s m args below meth c s₁ B hml hv
  obtain ⟨rfl, hsz, hP, hD0, hKU⟩ := hv
  have hx := B.exec
  have hb := B.bytes
  have hr := B.returns
  have hts := atoms_spec (ws := wsX4_fault) B.pre
  have hown : s.vm.findClass RX4 = some m.cls := findClass_of_methodNamed B.named
  have hlocks := B.notSynchronized
  have hK := hKU.1
  have hf_28 := hts (.fieldLink RX4 28 "ThinnedPots" "pad" "LThinnedPots$Pad;") (by decide +kernel)
  have hi_X4 : ∀ w ∈ u_ws RX4 TX4 7, w ∈ wsX4_fault := by decide +kernel
  subst hsz
  have hD := hD0.self (sz := s.heap.size)
  generalize hAe : va_A [(a0, .inr (4, [w0_0, w0_1, .ref a16, w0_3, w0_4, w0_5, w0_6])), (a16, .inr (1, [.ref a17, .int g16_1, .int g16_2, .ref a18])), (a17, .inl (cI, 60, .inl f17)), (a18, .inr (3, [.int g18_0, .int g18_1, .int g18_2, .int g18_3, .ref a19])), (a19, .inl (cI, 4, .inl f19))] s.heap.size = A at hD ⊢
  have hA : ∀ q : Nat, s.heap.size ≤ q → A q := fun q h => by rw [← hAe]; exact Or.inr h
  have hP : va_P D vwCl [(a0, .inr (4, [w0_0, w0_1, .ref a16, w0_3, w0_4, w0_5, w0_6])), (a16, .inr (1, [.ref a17, .int g16_1, .int g16_2, .ref a18])), (a17, .inl (cI, 60, .inl f17)), (a18, .inr (3, [.int g18_0, .int g18_1, .int g18_2, .int g18_3, .ref a19])), (a19, .inl (cI, 4, .inl f19))] s.heap := hP
  generalize hHe : s.heap = H at hP ⊢
  have hS : va_S A s.heap H [] := by rw [hHe]; exact va_S.rf
  have hl := lv_entry ([.ref a0]) (n := 1) (Nat.le_of_ble_eq_true rfl)
  rw [lg_entry_eq]
  generalize (lg_sl ([.ref a0]) ++ List.replicate (1 - (lg_sl ([.ref a0])).length) Slot.unset).toArray = ls at hl ⊢
  have hl : lv_has ls 1 [(0, .ref a0)] := hl
  unfold s_X4_fault at hsp
  refine lv_aload_n hx hb dX4_fault_0 rfl (lv_at hl 0 rfl) ?_
  refine va_get (D := D) (ci := 4) (v := .ref a16) (C := RX4) (T := TX4) (N := 7) hx hb hts hi_X4 hown hK hP 0 rfl rfl 2 (by decide) hf_28 (fun _ h9 => h9) rfl dX4_fault_1 ?_
  obtain ⟨r1, hcr1, hsp⟩ := clE hsp
  refine call_i (w1 := [(a16, .inr (1, [.ref a17, .int g16_1, .int r1.2.1, .ref a18])), (a17, .inl (cI, 60, .inl f17)), (a18, .inr (3, [.int r1.2.2.1, .int r1.2.2.2.1, .int r1.2.2.2.2.1, .int r1.2.2.2.2.2.1, .ref a19])), (a19, .inl (cI, 4, .inl r1.2.2.2.2.2.2))]) (ws' := [(a0, .inr (4, [w0_0, w0_1, .ref a16, w0_3, w0_4, w0_5, w0_6])), (a16, .inr (1, [.ref a17, .int g16_1, .int r1.2.1, .ref a18])), (a17, .inl (cI, 60, .inl f17)), (a18, .inr (3, [.int r1.2.2.1, .int r1.2.2.2.1, .int r1.2.2.2.2.1, .int r1.2.2.2.2.2.1, .ref a19])), (a19, .inl (cI, 4, .inl r1.2.2.2.2.2.2))]) (va_runV (As := []) (rest := []) ⟨hx, hb, hml, hown, hts⟩ (k_X1_firstFault l D cI cZ cC cS H.size a16 a17 a18 a19 g16_1 g16_2 f17 g18_0 g18_1 g18_2 g18_3 f19 r1 hcr1) (cwV 0 hts gX4_fault_X1_firstFault rfl rfl rfl nd_X1_firstFault ⟨Nat.le_of_ble_eq_true rfl, Nat.le_of_ble_eq_true rfl⟩) (PB.preV (ci := 1) (q0 := 1) hKU hP hD [1, 2, 3, 4] rfl rfl rfl rfl) rfl rfl hl.1 rfl (lv_room (Nat.le_of_ble_eq_true rfl)) dX4_fault_4 ⟨Nat.zero_le _, Nat.zero_le _⟩) hS hP hD hA [1, 2, 3, 4] rfl rfl (by first | (simp only [wset, List.set_cons_zero, List.set_cons_succ]; done) | rfl) rfl (fun H locs hP hD hS => ?_)
  have hres := Option.some.inj hsp
  subst hres
  exact W.iret (v := r1.1) hx hb hr (fun t ht hW => ⟨⟨r1.1, (), rfl, rfl, P_at ht hP⟩, hS.F ht⟩) hS.2.2 dX4_fault_7

theorem nd_X4_fill : yX4_fill.cls = RX4 ∧ yX4_fill.cls ≠ "java/lang/invoke/MethodHandle" ∧ yX4_fill.cls ≠ "java/lang/invoke/VarHandle" ∧ (parseMethodDescriptor yX4_fill.desc).map (fun d => d.parameters.length) = some 3 := by decide +kernel
set_option maxHeartbeats 8000000 in
set_option maxRecDepth 100000 in
theorem k_X4_fill (l : Launch) (D : va_G) (cI cZ cC cS : ClassId) (sz : Nat) (a0 a1 a2 a3 a4 a5 a6 a7 a20 a22 a23 a24 a25 a26 a27 a28 : Nat) (w0_1 : Value) (w0_2 : Value) (w0_4 : Value) (g0_5 : Int32) (g0_6 : Int32) (g1_6 : Int32) (g1_7 : Int32) (g1_8 : Int32) (g1_9 : Int32) (w1_10 : Value) (w1_11 : Value) (f2 : Nat → Int32) (f3 : Nat → Int32) (f4 : Nat → Int32) (f5 : Nat → Int32) (f6 : Nat → Int32) (f7 : Nat → Int32) (f20 : Nat → Option Nat) (g22_6 : Int32) (g22_7 : Int32) (g22_8 : Int32) (g22_9 : Int32) (w22_10 : Value) (w22_11 : Value) (f23 : Nat → Int32) (f24 : Nat → Int32) (f25 : Nat → Int32) (f26 : Nat → Int32) (f27 : Nat → Int32) (f28 : Nat → Int32) (u1 : Int32) (u2 : Int32) (u3 : Int32) (hq : s_X4_studioAt 7 f20 g0_5 = some (some a22)) (res : Int32 × Int32 × Int32 × Int32 × (Nat → Int32) × Int32 × Int32 × Int32 × Int32 × (Nat → Int32) × (Nat → Int32) × (Nat → Int32) × (Nat → Int32) × (Nat → Int32) × (Nat → Int32)) (hsp : s_X4_fill g0_5 g0_6 g1_6 g1_7 g1_8 g1_9 f2 f3 f4 f5 f6 f7 f20 f23 f24 f25 f26 f27 f28 u1 u2 u3 = some res) : Met l yX4_fill wsX4_fill ({ frames := 4, cells := 0, slots := 0, locals := 87 }) (va_Pc [.ref a0, .int u1, .int u2, .int u3] (PB D cI cZ cC cS [(a0, .inr (4, [.ref a1, w0_1, w0_2, .ref a20, w0_4, .int g0_5, .int g0_6])), (a1, .inr (2, [.ref a2, .ref a3, .ref a4, .ref a5, .ref a6, .ref a7, .int g1_6, .int g1_7, .int g1_8, .int g1_9, w1_10, w1_11])), (a2, .inl (cI, 2, .inl f2)), (a3, .inl (cI, 36, .inl f3)), (a4, .inl (cI, 8, .inl f4)), (a5, .inl (cI, 18, .inl f5)), (a6, .inl (cI, 18, .inl f6)), (a7, .inl (cI, 6, .inl f7)), (a20, .inl (cS, 7, .inr (.inr (.inr (.inr f20))))), (a22, .inr (2, [.ref a23, .ref a24, .ref a25, .ref a26, .ref a27, .ref a28, .int g22_6, .int g22_7, .int g22_8, .int g22_9, w22_10, w22_11])), (a23, .inl (cI, 2, .inl f23)), (a24, .inl (cI, 36, .inl f24)), (a25, .inl (cI, 8, .inl f25)), (a26, .inl (cI, 18, .inl f26)), (a27, .inl (cI, 18, .inl f27)), (a28, .inl (cI, 6, .inl f28))] sz)) (va_Qi (fun r (_ : Unit) => r = res.1) (fun _ t => va_P D vwCl [(a0, .inr (4, [.ref a1, w0_1, w0_2, .ref a20, w0_4, .int res.2.1, .int res.2.2.1])), (a1, .inr (2, [.ref a2, .ref a3, .ref a4, .ref a5, .ref a6, .ref a7, .int res.2.2.2.1, .int g1_7, .int g1_8, .int g1_9, w1_10, w1_11])), (a2, .inl (cI, 2, .inl f2)), (a3, .inl (cI, 36, .inl res.2.2.2.2.1)), (a4, .inl (cI, 8, .inl f4)), (a5, .inl (cI, 18, .inl f5)), (a6, .inl (cI, 18, .inl f6)), (a7, .inl (cI, 6, .inl f7)), (a20, .inl (cS, 7, .inr (.inr (.inr (.inr f20))))), (a22, .inr (2, [.ref a23, .ref a24, .ref a25, .ref a26, .ref a27, .ref a28, .int res.2.2.2.2.2.1, .int res.2.2.2.2.2.2.1, .int res.2.2.2.2.2.2.2.1, .int res.2.2.2.2.2.2.2.2.1, w22_10, w22_11])), (a23, .inl (cI, 2, .inl res.2.2.2.2.2.2.2.2.2.1)), (a24, .inl (cI, 36, .inl res.2.2.2.2.2.2.2.2.2.2.1)), (a25, .inl (cI, 8, .inl res.2.2.2.2.2.2.2.2.2.2.2.1)), (a26, .inl (cI, 18, .inl res.2.2.2.2.2.2.2.2.2.2.2.2.1)), (a27, .inl (cI, 18, .inl res.2.2.2.2.2.2.2.2.2.2.2.2.2.1)), (a28, .inl (cI, 6, .inl res.2.2.2.2.2.2.2.2.2.2.2.2.2.2))] t.heap) (va_A [(a0, .inr (4, [.ref a1, w0_1, w0_2, .ref a20, w0_4, .int g0_5, .int g0_6])), (a1, .inr (2, [.ref a2, .ref a3, .ref a4, .ref a5, .ref a6, .ref a7, .int g1_6, .int g1_7, .int g1_8, .int g1_9, w1_10, w1_11])), (a2, .inl (cI, 2, .inl f2)), (a3, .inl (cI, 36, .inl f3)), (a4, .inl (cI, 8, .inl f4)), (a5, .inl (cI, 18, .inl f5)), (a6, .inl (cI, 18, .inl f6)), (a7, .inl (cI, 6, .inl f7)), (a20, .inl (cS, 7, .inr (.inr (.inr (.inr f20))))), (a22, .inr (2, [.ref a23, .ref a24, .ref a25, .ref a26, .ref a27, .ref a28, .int g22_6, .int g22_7, .int g22_8, .int g22_9, w22_10, w22_11])), (a23, .inl (cI, 2, .inl f23)), (a24, .inl (cI, 36, .inl f24)), (a25, .inl (cI, 8, .inl f25)), (a26, .inl (cI, 18, .inl f26)), (a27, .inl (cI, 18, .inl f27)), (a28, .inl (cI, 6, .inl f28))] sz)) 0 0 (va_A [(a0, .inr (4, [.ref a1, w0_1, w0_2, .ref a20, w0_4, .int g0_5, .int g0_6])), (a1, .inr (2, [.ref a2, .ref a3, .ref a4, .ref a5, .ref a6, .ref a7, .int g1_6, .int g1_7, .int g1_8, .int g1_9, w1_10, w1_11])), (a2, .inl (cI, 2, .inl f2)), (a3, .inl (cI, 36, .inl f3)), (a4, .inl (cI, 8, .inl f4)), (a5, .inl (cI, 18, .inl f5)), (a6, .inl (cI, 18, .inl f6)), (a7, .inl (cI, 6, .inl f7)), (a20, .inl (cS, 7, .inr (.inr (.inr (.inr f20))))), (a22, .inr (2, [.ref a23, .ref a24, .ref a25, .ref a26, .ref a27, .ref a28, .int g22_6, .int g22_7, .int g22_8, .int g22_9, w22_10, w22_11])), (a23, .inl (cI, 2, .inl f23)), (a24, .inl (cI, 36, .inl f24)), (a25, .inl (cI, 8, .inl f25)), (a26, .inl (cI, 18, .inl f26)), (a27, .inl (cI, 18, .inl f27)), (a28, .inl (cI, 6, .inl f28))] sz) := by
  refine Met.ofW (cc := cX4_fill) (maxL := 4) (ret := (some .int)) (by decide) rfl ?_
  intro p e s m args below meth c s₁ B hml hv
  obtain ⟨rfl, hsz, hP, hD0, hKU⟩ := hv
  have hx := B.exec
  have hb := B.bytes
  have hr := B.returns
  have hts := atoms_spec (ws := wsX4_fill) B.pre
  have hown : s.vm.findClass RX4 = some m.cls := findClass_of_methodNamed B.named
  have hlocks := B.notSynchronized
  have hK := hKU.1
  have hf_12 := hts (.fieldLink RX4 12 "ThinnedPots" "studio" "LThinnedPots$Studio;") (by decide +kernel)
  have hi_X4 : ∀ w ∈ u_ws RX4 TX4 7, w ∈ wsX4_fill := by decide +kernel
  subst hsz
  have hD := hD0.self (sz := s.heap.size)
  generalize hAe : va_A [(a0, .inr (4, [.ref a1, w0_1, w0_2, .ref a20, w0_4, .int g0_5, .int g0_6])), (a1, .inr (2, [.ref a2, .ref a3, .ref a4, .ref a5, .ref a6, .ref a7, .int g1_6, .int g1_7, .int g1_8, .int g1_9, w1_10, w1_11])), (a2, .inl (cI, 2, .inl f2)), (a3, .inl (cI, 36, .inl f3)), (a4, .inl (cI, 8, .inl f4)), (a5, .inl (cI, 18, .inl f5)), (a6, .inl (cI, 18, .inl f6)), (a7, .inl (cI, 6, .inl f7)), (a20, .inl (cS, 7, .inr (.inr (.inr (.inr f20))))), (a22, .inr (2, [.ref a23, .ref a24, .ref a25, .ref a26, .ref a27, .ref a28, .int g22_6, .int g22_7, .int g22_8, .int g22_9, w22_10, w22_11])), (a23, .inl (cI, 2, .inl f23)), (a24, .inl (cI, 36, .inl f24)), (a25, .inl (cI, 8, .inl f25)), (a26, .inl (cI, 18, .inl f26)), (a27, .inl (cI, 18, .inl f27)), (a28, .inl (cI, 6, .inl f28))] s.heap.size = A at hD ⊢
  have hA : ∀ q : Nat, s.heap.size ≤ q → A q := fun q h => by rw [← hAe]; exact Or.inr h
  have hP : va_P D vwCl [(a0, .inr (4, [.ref a1, w0_1, w0_2, .ref a20, w0_4, .int g0_5, .int g0_6])), (a1, .inr (2, [.ref a2, .ref a3, .ref a4, .ref a5, .ref a6, .ref a7, .int g1_6, .int g1_7, .int g1_8, .int g1_9, w1_10, w1_11])), (a2, .inl (cI, 2, .inl f2)), (a3, .inl (cI, 36, .inl f3)), (a4, .inl (cI, 8, .inl f4)), (a5, .inl (cI, 18, .inl f5)), (a6, .inl (cI, 18, .inl f6)), (a7, .inl (cI, 6, .inl f7)), (a20, .inl (cS, 7, .inr (.inr (.inr (.inr f20))))), (a22, .inr (2, [.ref a23, .ref a24, .ref a25, .ref a26, .ref a27, .ref a28, .int g22_6, .int g22_7, .int g22_8, .int g22_9, w22_10, w22_11])), (a23, .inl (cI, 2, .inl f23)), (a24, .inl (cI, 36, .inl f24)), (a25, .inl (cI, 8, .inl f25)), (a26, .inl (cI, 18, .inl f26)), (a27, .inl (cI, 18, .inl f27)), (a28, .inl (cI, 6, .inl f28))] s.heap := hP
  generalize hHe : s.heap = H at hP ⊢
  have hS : va_S A s.heap H [] := by rw [hHe]; exact va_S.rf
  have hl := lv_entry ([.ref a0, .int u1, .int u2, .int u3]) (n := 4) (Nat.le_of_ble_eq_true rfl)
  rw [lg_entry_eq]
  generalize (lg_sl ([.ref a0, .int u1, .int u2, .int u3]) ++ List.replicate (4 - (lg_sl ([.ref a0, .int u1, .int u2, .int u3])).length) Slot.unset).toArray = ls at hl ⊢
  have hl : lv_has ls 4 [(0, .ref a0), (1, .int u1), (2, .int u2), (3, .int u3)] := hl
  unfold s_X4_fill at hsp
  refine lv_aload_n hx hb dX4_fill_0 rfl (lv_at hl 0 rfl) ?_
  obtain ⟨r1, hcr1, hsp⟩ := clE hsp
  refine call_v (w1 := [(a0, .inr (4, [.ref a1, w0_1, w0_2, .ref a20, w0_4, .int g0_5, .int g0_6])), (a1, .inr (2, [.ref a2, .ref a3, .ref a4, .ref a5, .ref a6, .ref a7, .int g1_6, .int g1_7, .int g1_8, .int g1_9, w1_10, w1_11])), (a2, .inl (cI, 2, .inl f2)), (a3, .inl (cI, 36, .inl f3)), (a4, .inl (cI, 8, .inl f4)), (a5, .inl (cI, 18, .inl f5)), (a6, .inl (cI, 18, .inl f6)), (a7, .inl (cI, 6, .inl f7)), (a20, .inl (cS, 7, .inr (.inr (.inr (.inr f20))))), (a22, .inr (2, [.ref a23, .ref a24, .ref a25, .ref a26, .ref a27, .ref a28, .int r1.1, .int r1.2.1, .int r1.2.2.1, .int r1.2.2.2.1, w22_10, w22_11])), (a23, .inl (cI, 2, .inl r1.2.2.2.2.1)), (a24, .inl (cI, 36, .inl r1.2.2.2.2.2.1)), (a25, .inl (cI, 8, .inl r1.2.2.2.2.2.2.1)), (a26, .inl (cI, 18, .inl r1.2.2.2.2.2.2.2.1)), (a27, .inl (cI, 18, .inl r1.2.2.2.2.2.2.2.2.1)), (a28, .inl (cI, 6, .inl r1.2.2.2.2.2.2.2.2.2))]) (ws' := [(a0, .inr (4, [.ref a1, w0_1, w0_2, .ref a20, w0_4, .int g0_5, .int g0_6])), (a1, .inr (2, [.ref a2, .ref a3, .ref a4, .ref a5, .ref a6, .ref a7, .int g1_6, .int g1_7, .int g1_8, .int g1_9, w1_10, w1_11])), (a2, .inl (cI, 2, .inl f2)), (a3, .inl (cI, 36, .inl f3)), (a4, .inl (cI, 8, .inl f4)), (a5, .inl (cI, 18, .inl f5)), (a6, .inl (cI, 18, .inl f6)), (a7, .inl (cI, 6, .inl f7)), (a20, .inl (cS, 7, .inr (.inr (.inr (.inr f20))))), (a22, .inr (2, [.ref a23, .ref a24, .ref a25, .ref a26, .ref a27, .ref a28, .int r1.1, .int r1.2.1, .int r1.2.2.1, .int r1.2.2.2.1, w22_10, w22_11])), (a23, .inl (cI, 2, .inl r1.2.2.2.2.1)), (a24, .inl (cI, 36, .inl r1.2.2.2.2.2.1)), (a25, .inl (cI, 8, .inl r1.2.2.2.2.2.2.1)), (a26, .inl (cI, 18, .inl r1.2.2.2.2.2.2.2.1)), (a27, .inl (cI, 18, .inl r1.2.2.2.2.2.2.2.2.1)), (a28, .inl (cI, 6, .inl r1.2.2.2.2.2.2.2.2.2))]) (va_runV (As := []) (rest := []) ⟨hx, hb, hml, hown, hts⟩ (k_X4_keepState l D cI cZ cC cS H.size a0 a1 a2 a3 a4 a5 a6 a7 a20 a22 a23 a24 a25 a26 a27 a28 (w0_1) (w0_2) (w0_4) g0_5 (.int g0_6) g1_6 g1_7 g1_8 g1_9 (w1_10) (w1_11) f2 f3 f4 f5 f6 f7 f20 g22_6 g22_7 g22_8 g22_9 (w22_10) (w22_11) f23 f24 f25 f26 f27 f28 hq r1 hcr1) (cwV 0 hts gX4_fill_X4_keepState rfl rfl rfl nd_X4_keepState ⟨Nat.le_of_ble_eq_true rfl, Nat.le_of_ble_eq_true rfl⟩) (PB.preV (ci := 4) (q0 := 0) hKU hP hD [0, 1, 2, 3, 4, 5, 6, 7, 8, 9, 10, 11, 12, 13, 14, 15] rfl rfl rfl rfl) rfl rfl hl.1 rfl (lv_room (Nat.le_of_ble_eq_true rfl)) dX4_fill_1 ⟨Nat.zero_le _, Nat.zero_le _⟩) hS hP hD hA [0, 1, 2, 3, 4, 5, 6, 7, 8, 9, 10, 11, 12, 13, 14, 15] rfl rfl (by first | (simp only [wset, List.set_cons_zero, List.set_cons_succ]; done) | rfl) rfl (fun H locs hP hD hS => ?_)
  refine lv_aload_n hx hb dX4_fill_4 rfl (lv_at hl 0 rfl) ?_
  refine lv_aload_n hx hb dX4_fill_5 rfl (lv_at hl 0 rfl) ?_
  refine va_get (D := D) (ci := 4) (v := .ref a1) (C := RX4) (T := TX4) (N := 7) hx hb hts hi_X4 hown hK hP 0 rfl rfl 0 (by decide) hf_12 (fun _ h9 => h9) rfl dX4_fill_6 ?_
  refine lv_iload_n hx hb dX4_fill_9 rfl (lv_at hl 1 rfl) ?_
  refine lv_iload_n hx hb dX4_fill_10 rfl (lv_at hl 2 rfl) ?_
  refine lv_iload_n hx hb dX4_fill_11 rfl (lv_at hl 3 rfl) ?_
  obtain ⟨r2, hcr2, hsp⟩ := clE hsp
  refine call_i (w1 := [(a1, .inr (2, [.ref a2, .ref a3, .ref a4, .ref a5, .ref a6, .ref a7, .int r2.2.1, .int g1_7, .int g1_8, .int g1_9, w1_10, w1_11])), (a3, .inl (cI, 36, .inl r2.2.2))]) (ws' := [(a0, .inr (4, [.ref a1, w0_1, w0_2, .ref a20, w0_4, .int g0_5, .int g0_6])), (a1, .inr (2, [.ref a2, .ref a3, .ref a4, .ref a5, .ref a6, .ref a7, .int r2.2.1, .int g1_7, .int g1_8, .int g1_9, w1_10, w1_11])), (a2, .inl (cI, 2, .inl f2)), (a3, .inl (cI, 36, .inl r2.2.2)), (a4, .inl (cI, 8, .inl f4)), (a5, .inl (cI, 18, .inl f5)), (a6, .inl (cI, 18, .inl f6)), (a7, .inl (cI, 6, .inl f7)), (a20, .inl (cS, 7, .inr (.inr (.inr (.inr f20))))), (a22, .inr (2, [.ref a23, .ref a24, .ref a25, .ref a26, .ref a27, .ref a28, .int r1.1, .int r1.2.1, .int r1.2.2.1, .int r1.2.2.2.1, w22_10, w22_11])), (a23, .inl (cI, 2, .inl r1.2.2.2.2.1)), (a24, .inl (cI, 36, .inl r1.2.2.2.2.2.1)), (a25, .inl (cI, 8, .inl r1.2.2.2.2.2.2.1)), (a26, .inl (cI, 18, .inl r1.2.2.2.2.2.2.2.1)), (a27, .inl (cI, 18, .inl r1.2.2.2.2.2.2.2.2.1)), (a28, .inl (cI, 6, .inl r1.2.2.2.2.2.2.2.2.2))]) (va_runV (As := [.int u1, .int u2, .int u3]) (rest := [.ref a0]) ⟨hx, hb, hml, hown, hts⟩ (k_X2_addDrops l D cI cZ cC cS H.size a1 a3 (.ref a2) (.ref a4) (.ref a5) (.ref a6) (.ref a7) g1_6 (.int g1_7) (.int g1_8) (.int g1_9) (w1_10) (w1_11) f3 u1 u2 u3 r2 hcr2) (cwV 3 hts gX4_fill_X2_addDrops rfl rfl rfl nd_X2_addDrops ⟨Nat.le_of_ble_eq_true rfl, Nat.le_of_ble_eq_true rfl⟩) (PB.preV (ci := 2) (q0 := 1) hKU hP hD [1, 3] rfl rfl rfl rfl) rfl rfl hl.1 rfl (lv_room (Nat.le_of_ble_eq_true rfl)) dX4_fill_12 ⟨Nat.zero_le _, Nat.zero_le _⟩) hS hP hD hA [1, 3] rfl rfl (by first | (simp only [wset, List.set_cons_zero, List.set_cons_succ]; done) | rfl) rfl (fun H locs hP hD hS => ?_)
  obtain ⟨r3, hcr3, hsp⟩ := clE hsp
  refine call_i (w1 := [(a0, .inr (4, [.ref a1, w0_1, w0_2, .ref a20, w0_4, .int r3.2.1, .int r3.2.2]))]) (ws' := [(a0, .inr (4, [.ref a1, w0_1, w0_2, .ref a20, w0_4, .int r3.2.1, .int r3.2.2])), (a1, .inr (2, [.ref a2, .ref a3, .ref a4, .ref a5, .ref a6, .ref a7, .int r2.2.1, .int g1_7, .int g1_8, .int g1_9, w1_10, w1_11])), (a2, .inl (cI, 2, .inl f2)), (a3, .inl (cI, 36, .inl r2.2.2)), (a4, .inl (cI, 8, .inl f4)), (a5, .inl (cI, 18, .inl f5)), (a6, .inl (cI, 18, .inl f6)), (a7, .inl (cI, 6, .inl f7)), (a20, .inl (cS, 7, .inr (.inr (.inr (.inr f20))))), (a22, .inr (2, [.ref a23, .ref a24, .ref a25, .ref a26, .ref a27, .ref a28, .int r1.1, .int r1.2.1, .int r1.2.2.1, .int r1.2.2.2.1, w22_10, w22_11])), (a23, .inl (cI, 2, .inl r1.2.2.2.2.1)), (a24, .inl (cI, 36, .inl r1.2.2.2.2.2.1)), (a25, .inl (cI, 8, .inl r1.2.2.2.2.2.2.1)), (a26, .inl (cI, 18, .inl r1.2.2.2.2.2.2.2.1)), (a27, .inl (cI, 18, .inl r1.2.2.2.2.2.2.2.2.1)), (a28, .inl (cI, 6, .inl r1.2.2.2.2.2.2.2.2.2))]) (va_runV (As := [.int r2.1]) (rest := []) ⟨hx, hb, hml, hown, hts⟩ (k_X4_recorded l D cI cZ cC cS H.size a0 (.ref a1) (w0_1) (w0_2) (.ref a20) (w0_4) g0_5 g0_6 r2.1 r3 hcr3) (cwV 1 hts gX4_fill_X4_recorded rfl rfl rfl nd_X4_recorded ⟨Nat.le_of_ble_eq_true rfl, Nat.le_of_ble_eq_true rfl⟩) (PB.preV (ci := 4) (q0 := 0) hKU hP hD [0] rfl rfl rfl rfl) rfl rfl hl.1 rfl (lv_room (Nat.le_of_ble_eq_true rfl)) dX4_fill_15 ⟨Nat.zero_le _, Nat.zero_le _⟩) hS hP hD hA [0] rfl rfl (by first | (simp only [wset, List.set_cons_zero, List.set_cons_succ]; done) | rfl) rfl (fun H locs hP hD hS => ?_)
  have hres := Option.some.inj hsp
  subst hres
  exact W.iret (v := r3.1) hx hb hr (fun t ht hW => ⟨⟨r3.1, (), rfl, rfl, P_at ht hP⟩, hS.F ht⟩) hS.2.2 dX4_fill_18
