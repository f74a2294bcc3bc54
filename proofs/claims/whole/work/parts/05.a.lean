theorem nd_X5_isSign : yX5_isSign.cls = RX5 ∧ yX5_isSign.cls ≠ "java/lang/invoke/MethodHandle" ∧ yX5_isSign.cls ≠ "java/lang/invoke/VarHandle" ∧ (parseMethodDescriptor yX5_isSign.desc).map (fun d => d.parameters.length) = some 2 := by decide +kernel
set_option maxHeartbeats 8000000 in
set_option maxRecDepth 100000 in
theorem k_X5_isSign (l : Launch) (D : va_G) (cI cZ cC cS : ClassId) (sz : Nat) (a0 a9 : Nat) (w0_0 : Value) (w0_1 : Value) (w0_2 : Value) (w0_3 : Value) (w0_4 : Value) (w0_5 : Value) (w0_6 : Value) (w0_7 : Value) (g0_9 : Int32) (w0_10 : Value) (w0_11 : Value) (g0_12 : Int32) (f9 : Nat → Int32) (u1 : Int32) (u2 : Int32) (res : Int32) (hsp : s_X5_isSign g0_9 g0_12 f9 u1 u2 = some res) : Met l yX5_isSign wsX5_isSign ({ frames := 0, cells := 0, slots := 0, locals := 0 }) (va_Pc [.ref a0, .int u1, .int u2] (PB D cI cZ cC cS [(a0, .inr (5, [w0_0, w0_1, w0_2, w0_3, w0_4, w0_5, w0_6, w0_7, .ref a9, .int g0_9, w0_10, w0_11, .int g0_12])), (a9, .inl (cC, 60, .inl f9))] sz)) (va_Qi (fun r (_ : Unit) => r = res ∧ (res = 0 ∨ res = 1)) (fun _ t => va_P D vwCl [(a0, .inr (5, [w0_0, w0_1, w0_2, w0_3, w0_4, w0_5, w0_6, w0_7, .ref a9, .int g0_9, w0_10, w0_11, .int g0_12])), (a9, .inl (cC, 60, .inl f9))] t.heap) (va_A [(a0, .inr (5, [w0_0, w0_1, w0_2, w0_3, w0_4, w0_5, w0_6, w0_7, .ref a9, .int g0_9, w0_10, w0_11, .int g0_12])), (a9, .inl (cC, 60, .inl f9))] sz)) 0 0 (va_A [(a0, .inr (5, [w0_0, w0_1, w0_2, w0_3, w0_4, w0_5, w0_6, w0_7, .ref a9, .int g0_9, w0_10, w0_11, .int g0_12])), (a9, .inl (cC, 60, .inl f9))] sz) := by
  refine Met.ofW (cc := cX5_isSign) (maxL := 3) (ret := (some .boolean)) (by decide) rfl ?_
  intro p e s m args below meth c s₁ B hml hv
  obtain ⟨rfl, hsz, hP, hD0, hKU⟩ := hv
  have hx := B.exec
  have hb := B.bytes
  have hr := B.returns
  have hts := atoms_spec (ws := wsX5_isSign) B.pre
  have hown : s.vm.findClass RX5 = some m.cls := findClass_of_methodNamed B.named
  have hlocks := B.notSynchronized
  have hK := hKU.1
  have hf_123 := hts (.fieldLink RX5 123 "ThinnedPotsModel" "at" "I") (by decide +kernel)
  have hi_X5 : ∀ w ∈ u_ws RX5 TX5 13, w ∈ wsX5_isSign := by decide +kernel
  have hf_126 := hts (.fieldLink RX5 126 "ThinnedPotsModel" "length" "I") (by decide +kernel)
  have hf_35 := hts (.fieldLink RX5 35 "ThinnedPotsModel" "pad" "[C") (by decide +kernel)
  subst hsz
  have hD := hD0.self (sz := s.heap.size)
  generalize hAe : va_A [(a0, .inr (5, [w0_0, w0_1, w0_2, w0_3, w0_4, w0_5, w0_6, w0_7, .ref a9, .int g0_9, w0_10, w0_11, .int g0_12])), (a9, .inl (cC, 60, .inl f9))] s.heap.size = A at hD ⊢
  have hA : ∀ q : Nat, s.heap.size ≤ q → A q := fun q h => by rw [← hAe]; exact Or.inr h
  have hP : va_P D vwCl [(a0, .inr (5, [w0_0, w0_1, w0_2, w0_3, w0_4, w0_5, w0_6, w0_7, .ref a9, .int g0_9, w0_10, w0_11, .int g0_12])), (a9, .inl (cC, 60, .inl f9))] s.heap := hP
  generalize hHe : s.heap = H at hP ⊢
  have hS : va_S A s.heap H [] := by rw [hHe]; exact va_S.rf
  have hl := lv_entry ([.ref a0, .int u1, .int u2]) (n := 3) (Nat.le_of_ble_eq_true rfl)
  rw [lg_entry_eq]
  generalize (lg_sl ([.ref a0, .int u1, .int u2]) ++ List.replicate (3 - (lg_sl ([.ref a0, .int u1, .int u2])).length) Slot.unset).toArray = ls at hl ⊢
  have hl : lv_has ls 3 [(0, .ref a0), (1, .int u1), (2, .int u2)] := hl
  unfold s_X5_isSign at hsp
  refine lv_aload_n hx hb dX5_isSign_0 rfl (lv_at hl 0 rfl) ?_
  refine va_get (D := D) (ci := 5) (v := .int g0_12) (C := RX5) (T := TX5) (N := 13) hx hb hts hi_X5 hown hK hP 0 rfl rfl 12 (by decide) hf_123 (fun _ h9 => h9) rfl dX5_isSign_1 ?_
  refine lv_aload_n hx hb dX5_isSign_4 rfl (lv_at hl 0 rfl) ?_
  refine va_get (D := D) (ci := 5) (v := .int g0_9) (C := RX5) (T := TX5) (N := 13) hx hb hts hi_X5 hown hK hP 0 rfl rfl 9 (by decide) hf_126 (fun _ h9 => h9) rfl dX5_isSign_5 ?_
  refine lv_icmp_ge (tgt := 41) hx hb dX5_isSign_8 (by decide) (fun c1 => ?_) (fun c1 => ?_)
  · have hsp := itT hsp c1
    refine lv_iconst (v := 0) hx hb dX5_isSign_41 (by decide) ?_
    have hres := Option.some.inj hsp
    subst hres
    exact W.zret (v := 0) hx hb hr (zE (Or.inl rfl)) (fun t ht hW => ⟨⟨0, (), rfl, ⟨rfl, (Or.inl rfl)⟩, P_at ht hP⟩, hS.F ht⟩) hS.2.2 dX5_isSign_42
  have hsp := itF hsp c1
  refine lv_aload_n hx hb dX5_isSign_11 rfl (lv_at hl 0 rfl) ?_
  refine va_get (D := D) (ci := 5) (v := .ref a9) (C := RX5) (T := TX5) (N := 13) hx hb hts hi_X5 hown hK hP 0 rfl rfl 8 (by decide) hf_35 (fun _ h9 => h9) rfl dX5_isSign_12 ?_
  refine lv_aload_n hx hb dX5_isSign_15 rfl (lv_at hl 0 rfl) ?_
  refine va_get (D := D) (ci := 5) (v := .int g0_12) (C := RX5) (T := TX5) (N := 13) hx hb hts hi_X5 hown hK hP 0 rfl rfl 12 (by decide) hf_123 (fun _ h9 => h9) rfl dX5_isSign_16 ?_
  obtain ⟨x2, ex2, hnx2, hsp⟩ := ldE hsp
  refine r_cald hx hb hK hP 1 2 rfl rfl ex2 hnx2 dX5_isSign_19 ?_
  refine lv_iload_n hx hb dX5_isSign_20 rfl (lv_at hl 1 rfl) ?_
  refine lv_icmp_lt (tgt := 41) hx hb dX5_isSign_21 (by decide) (fun c3 => ?_) (fun c3 => ?_)
  · have hsp := itT hsp c3
    refine lv_iconst (v := 0) hx hb dX5_isSign_41 (by decide) ?_
    have hres := Option.some.inj hsp
    subst hres
    exact W.zret (v := 0) hx hb hr (zE (Or.inl rfl)) (fun t ht hW => ⟨⟨0, (), rfl, ⟨rfl, (Or.inl rfl)⟩, P_at ht hP⟩, hS.F ht⟩) hS.2.2 dX5_isSign_42
  have hsp := itF hsp c3
  refine lv_aload_n hx hb dX5_isSign_24 rfl (lv_at hl 0 rfl) ?_
  refine va_get (D := D) (ci := 5) (v := .ref a9) (C := RX5) (T := TX5) (N := 13) hx hb hts hi_X5 hown hK hP 0 rfl rfl 8 (by decide) hf_35 (fun _ h9 => h9) rfl dX5_isSign_25 ?_
  refine lv_aload_n hx hb dX5_isSign_28 rfl (lv_at hl 0 rfl) ?_
  refine va_get (D := D) (ci := 5) (v := .int g0_12) (C := RX5) (T := TX5) (N := 13) hx hb hts hi_X5 hown hK hP 0 rfl rfl 12 (by decide) hf_123 (fun _ h9 => h9) rfl dX5_isSign_29 ?_
  obtain ⟨x4, ex4, hnx4, hsp⟩ := ldE hsp
  refine r_cald hx hb hK hP 1 2 rfl rfl ex4 hnx4 dX5_isSign_32 ?_
  refine lv_iload_n hx hb dX5_isSign_33 rfl (lv_at hl 2 rfl) ?_
  refine lv_icmp_gt (tgt := 41) hx hb dX5_isSign_34 (by decide) (fun c5 => ?_) (fun c5 => ?_)
  · have hsp := itT hsp c5
    refine lv_iconst (v := 0) hx hb dX5_isSign_41 (by decide) ?_
    have hres := Option.some.inj hsp
    subst hres
    exact W.zret (v := 0) hx hb hr (zE (Or.inl rfl)) (fun t ht hW => ⟨⟨0, (), rfl, ⟨rfl, (Or.inl rfl)⟩, P_at ht hP⟩, hS.F ht⟩) hS.2.2 dX5_isSign_42
  have hsp := itF hsp c5
  refine lv_iconst (v := 1) hx hb dX5_isSign_37 (by decide) ?_
  refine lv_goto (tgt := 42) hx hb dX5_isSign_38 (by decide) ?_
  have hres := Option.some.inj hsp
  subst hres
  exact W.zret (v := 1) hx hb hr (zE (Or.inr rfl)) (fun t ht hW => ⟨⟨1, (), rfl, ⟨rfl, (Or.inr rfl)⟩, P_at ht hP⟩, hS.F ht⟩) hS.2.2 dX5_isSign_42

theorem nd_X5_accepts : yX5_accepts.cls = RX5 ∧ yX5_accepts.cls ≠ "java/lang/invoke/MethodHandle" ∧ yX5_accepts.cls ≠ "java/lang/invoke/VarHandle" ∧ (parseMethodDescriptor yX5_accepts.desc).map (fun d => d.parameters.length) = some 1 := by decide +kernel
set_option maxHeartbeats 8000000 in
set_option maxRecDepth 100000 in
theorem k_X5_accepts (l : Launch) (D : va_G) (cI cZ cC cS : ClassId) (sz : Nat) (a0 a9 : Nat) (w0_0 : Value) (w0_1 : Value) (w0_2 : Value) (w0_3 : Value) (w0_4 : Value) (w0_5 : Value) (w0_6 : Value) (w0_7 : Value) (g0_9 : Int32) (w0_10 : Value) (w0_11 : Value) (g0_12 : Int32) (f9 : Nat → Int32) (u1 : Int32) (res : Int32 × Int32) (hsp : s_X5_accepts g0_9 g0_12 f9 u1 = some res) : Met l yX5_accepts wsX5_accepts ({ frames := 1, cells := 0, slots := 0, locals := 22 }) (va_Pc [.ref a0, .int u1] (PB D cI cZ cC cS [(a0, .inr (5, [w0_0, w0_1, w0_2, w0_3, w0_4, w0_5, w0_6, w0_7, .ref a9, .int g0_9, w0_10, w0_11, .int g0_12])), (a9, .inl (cC, 60, .inl f9))] sz)) (va_Qi (fun r (_ : Unit) => r = res.1 ∧ (res.1 = 0 ∨ res.1 = 1)) (fun _ t => va_P D vwCl [(a0, .inr (5, [w0_0, w0_1, w0_2, w0_3, w0_4, w0_5, w0_6, w0_7, .ref a9, .int g0_9, w0_10, w0_11, .int res.2])), (a9, .inl (cC, 60, .inl f9))] t.heap) (va_A [(a0, .inr (5, [w0_0, w0_1, w0_2, w0_3, w0_4, w0_5, w0_6, w0_7, .ref a9, .int g0_9, w0_10, w0_11, .int g0_12])), (a9, .inl (cC, 60, .inl f9))] sz)) 0 0 (va_A [(a0, .inr (5, [w0_0, w0_1, w0_2, w0_3, w0_4, w0_5, w0_6, w0_7, .ref a9, .int g0_9, w0_10, w0_11, .int g0_12])), (a9, .inl (cC, 60, .inl f9))] sz) := by
  refine Met.ofW (cc := cX5_accepts) (maxL := 3) (ret := (some .boolean)) (by decide) rfl ?_
  intro p e s m args below meth c s₁ B hml hv
  obtain ⟨rfl, hsz, hP, hD0, hKU⟩ := hv
  have hx := B.exec
  have hb := B.bytes
  have hr := B.returns
  have hts := atoms_spec (ws := wsX5_accepts) B.pre
  have hown : s.vm.findClass RX5 = some m.cls := findClass_of_methodNamed B.named
  have hlocks := B.notSynchronized
  have hK := hKU.1
  have hf_123 := hts (.fieldLink RX5 123 "ThinnedPotsModel" "at" "I") (by decide +kernel)
  have hi_X5 : ∀ w ∈ u_ws RX5 TX5 13, w ∈ wsX5_accepts := by decide +kernel
  subst hsz
  have hD := hD0.self (sz := s.heap.size)
  generalize hAe : va_A [(a0, .inr (5, [w0_0, w0_1, w0_2, w0_3, w0_4, w0_5, w0_6, w0_7, .ref a9, .int g0_9, w0_10, w0_11, .int g0_12])), (a9, .inl (cC, 60, .inl f9))] s.heap.size = A at hD ⊢
  have hA : ∀ q : Nat, s.heap.size ≤ q → A q := fun q h => by rw [← hAe]; exact Or.inr h
  have hP : va_P D vwCl [(a0, .inr (5, [w0_0, w0_1, w0_2, w0_3, w0_4, w0_5, w0_6, w0_7, .ref a9, .int g0_9, w0_10, w0_11, .int g0_12])), (a9, .inl (cC, 60, .inl f9))] s.heap := hP
  generalize hHe : s.heap = H at hP ⊢
  have hS : va_S A s.heap H [] := by rw [hHe]; exact va_S.rf
  have hl := lv_entry ([.ref a0, .int u1]) (n := 3) (Nat.le_of_ble_eq_true rfl)
  rw [lg_entry_eq]
  generalize (lg_sl ([.ref a0, .int u1]) ++ List.replicate (3 - (lg_sl ([.ref a0, .int u1])).length) Slot.unset).toArray = ls at hl ⊢
  have hl : lv_has ls 3 [(0, .ref a0), (1, .int u1)] := hl
  unfold s_X5_accepts at hsp
  refine lv_aload_n hx hb dX5_accepts_0 rfl (lv_at hl 0 rfl) ?_
  refine lv_iload_n hx hb dX5_accepts_1 rfl (lv_at hl 1 rfl) ?_
  refine lv_iload_n hx hb dX5_accepts_2 rfl (lv_at hl 1 rfl) ?_
  obtain ⟨r1, hcr1, hsp⟩ := clE hsp
  refine call_z (w1 := [(a0, .inr (5, [w0_0, w0_1, w0_2, w0_3, w0_4, w0_5, w0_6, w0_7, .ref a9, .int g0_9, w0_10, w0_11, .int g0_12])), (a9, .inl (cC, 60, .inl f9))]) (ws' := [(a0, .inr (5, [w0_0, w0_1, w0_2, w0_3, w0_4, w0_5, w0_6, w0_7, .ref a9, .int g0_9, w0_10, w0_11, .int g0_12])), (a9, .inl (cC, 60, .inl f9))]) (va_runV (As := [.int u1, .int u1]) (rest := []) ⟨hx, hb, hml, hown, hts⟩ (k_X5_isSign l D cI cZ cC cS H.size a0 a9 (w0_0) (w0_1) (w0_2) (w0_3) (w0_4) (w0_5) (w0_6) (w0_7) g0_9 (w0_10) (w0_11) g0_12 f9 u1 u1 r1 hcr1) (cwV 2 hts gX5_accepts_X5_isSign rfl rfl rfl nd_X5_isSign ⟨Nat.le_of_ble_eq_true rfl, Nat.le_of_ble_eq_true rfl⟩) (PB.preV (ci := 5) (q0 := 0) hKU hP hD [0, 1] rfl rfl rfl rfl) rfl rfl hl.1 rfl (lv_room (Nat.le_of_ble_eq_true rfl)) dX5_accepts_3 ⟨Nat.zero_le _, Nat.zero_le _⟩) hS hP hD hA [0, 1] rfl rfl (by first | (simp only [wset, List.set_cons_zero, List.set_cons_succ]; done) | rfl) rfl (fun H locs hP hD hS hzr1 => ?_)
  refine lv_istore_n (lv' := [(2, .int r1), (0, .ref a0), (1, .int u1)]) hx hb dX5_accepts_6 rfl hl (by decide) rfl (fun ls hl => ?_)
  refine lv_aload_n hx hb dX5_accepts_7 rfl (lv_at hl 1 rfl) ?_
  refine lv_dup hx hb dX5_accepts_8 rfl ?_
  refine va_get (D := D) (ci := 5) (v := .int g0_12) (C := RX5) (T := TX5) (N := 13) hx hb hts hi_X5 hown hK hP 0 rfl rfl 12 (by decide) hf_123 (fun _ h9 => h9) rfl dX5_accepts_9 ?_
  refine lv_iload_n hx hb dX5_accepts_12 rfl (lv_at hl 0 rfl) ?_
  refine lv_if_eq (tgt := 20) hx hb dX5_accepts_13 (by decide) (fun c2 => ?_) (fun c2 => ?_)
  · have hsp := itT hsp c2
    refine lv_iconst (v := 0) hx hb dX5_accepts_20 (by decide) ?_
    refine lv_iadd hx hb dX5_accepts_21 ?_
    obtain ⟨x3, ex3, hsp⟩ := nmE hsp
    refine r_top ex3 ?_
    refine va_put (D := D) (ci := 5) (v := .int x3) (ty := .int) (C := RX5) (T := TX5) (N := 13) hx hb hts hi_X5 tyX5 tyX5_ok nmX5 hown hK hP hD hS 0 rfl rfl 12 (by decide) hf_123 (fun _ h9 => h9) rfl (by decide +kernel) rfl rfl (Nat.le_of_ble_eq_true rfl) dX5_accepts_22 (fun H locs hP hD hS => ?_)
    have hP : va_P D vwCl [(a0, .inr (5, [w0_0, w0_1, w0_2, w0_3, w0_4, w0_5, w0_6, w0_7, .ref a9, .int g0_9, w0_10, w0_11, .int x3])), (a9, .inl (cC, 60, .inl f9))] H := hP
    have hD : va_D A [(a0, .inr (5, [w0_0, w0_1, w0_2, w0_3, w0_4, w0_5, w0_6, w0_7, .ref a9, .int g0_9, w0_10, w0_11, .int x3])), (a9, .inl (cC, 60, .inl f9))] := hD
    refine lv_iload_n hx hb dX5_accepts_25 rfl (lv_at hl 0 rfl) ?_
    have hres := Option.some.inj hsp
    subst hres
    exact W.zret (v := r1) hx hb hr (zE hzr1) (fun t ht hW => ⟨⟨r1, (), rfl, ⟨rfl, hzr1⟩, P_at ht hP⟩, hS.F ht⟩) hS.2.2 dX5_accepts_26
  have hsp := itF hsp c2
  refine lv_iconst (v := 1) hx hb dX5_accepts_16 (by decide) ?_
  refine lv_goto (tgt := 21) hx hb dX5_accepts_17 (by decide) ?_
  refine lv_iadd hx hb dX5_accepts_21 ?_
  obtain ⟨x4, ex4, hsp⟩ := nmE hsp
  refine r_top ex4 ?_
  refine va_put (D := D) (ci := 5) (v := .int x4) (ty := .int) (C := RX5) (T := TX5) (N := 13) hx hb hts hi_X5 tyX5 tyX5_ok nmX5 hown hK hP hD hS 0 rfl rfl 12 (by decide) hf_123 (fun _ h9 => h9) rfl (by decide +kernel) rfl rfl (Nat.le_of_ble_eq_true rfl) dX5_accepts_22 (fun H locs hP hD hS => ?_)
  have hP : va_P D vwCl [(a0, .inr (5, [w0_0, w0_1, w0_2, w0_3, w0_4, w0_5, w0_6, w0_7, .ref a9, .int g0_9, w0_10, w0_11, .int x4])), (a9, .inl (cC, 60, .inl f9))] H := hP
  have hD : va_D A [(a0, .inr (5, [w0_0, w0_1, w0_2, w0_3, w0_4, w0_5, w0_6, w0_7, .ref a9, .int g0_9, w0_10, w0_11, .int x4])), (a9, .inl (cC, 60, .inl f9))] := hD
  refine lv_iload_n hx hb dX5_accepts_25 rfl (lv_at hl 0 rfl) ?_
  have hres := Option.some.inj hsp
  subst hres
  exact W.zret (v := r1) hx hb hr (zE hzr1) (fun t ht hW => ⟨⟨r1, (), rfl, ⟨rfl, hzr1⟩, P_at ht hP⟩, hS.F ht⟩) hS.2.2 dX5_accepts_26

theorem nd_X5_away : yX5_away.cls = RX5 ∧ yX5_away.cls ≠ "java/lang/invoke/MethodHandle" ∧ yX5_away.cls ≠ "java/lang/invoke/VarHandle" ∧ (parseMethodDescriptor yX5_away.desc).map (fun d => d.parameters.length) = some 2 := by decide +kernel
set_option maxHeartbeats 8000000 in
set_option maxRecDepth 100000 in
theorem k_X5_away (l : Launch) (D : va_G) (cI cZ cC cS : ClassId) (sz : Nat) (u0 : Int32) (u1 : Int32) (res : Int32) (hsp : s_X5_away u0 u1 = some res) : Met l yX5_away wsX5_away ({ frames := 0, cells := 0, slots := 0, locals := 0 }) (va_Pc [.int u0, .int u1] (PB D cI cZ cC cS [] sz)) (va_Qi (fun r (_ : Unit) => r = res) (fun _ t => va_P D vwCl [] t.heap) (va_A [] sz)) 0 0 (va_A [] sz) := by
  refine Met.ofW (cc := cX5_away) (maxL := 2) (ret := (some .int)) (by decide) rfl ?_
  intro p e s m args below meth c s₁ B hml hv
  obtain ⟨rfl, hsz, hP, hD0, hKU⟩ := hv
  have hx := B.exec
  have hb := B.bytes
  have hr := B.returns
  have hts := atoms_spec (ws := wsX5_away) B.pre
  have hown : s.vm.findClass RX5 = some m.cls := findClass_of_methodNamed B.named
  have hlocks := B.notSynchronized
  have hK := hKU.1
  subst hsz
  have hD := hD0.self (sz := s.heap.size)
  generalize hAe : va_A [] s.heap.size = A at hD ⊢
  have hA : ∀ q : Nat, s.heap.size ≤ q → A q := fun q h => by rw [← hAe]; exact Or.inr h
  have hP : va_P D vwCl [] s.heap := hP
  generalize hHe : s.heap = H at hP ⊢
  have hS : va_S A s.heap H [] := by rw [hHe]; exact va_S.rf
  have hl := lv_entry ([.int u0, .int u1]) (n := 2) (Nat.le_of_ble_eq_true rfl)
  rw [lg_entry_eq]
  generalize (lg_sl ([.int u0, .int u1]) ++ List.replicate (2 - (lg_sl ([.int u0, .int u1])).length) Slot.unset).toArray = ls at hl ⊢
  have hl : lv_has ls 2 [(0, .int u0), (1, .int u1)] := hl
  unfold s_X5_away at hsp
  refine lv_iload_n hx hb dX5_away_0 rfl (lv_at hl 0 rfl) ?_
  refine lv_iload_n hx hb dX5_away_1 rfl (lv_at hl 1 rfl) ?_
  refine lv_icmp_le (tgt := 11) hx hb dX5_away_2 (by decide) (fun c1 => ?_) (fun c1 => ?_)
  · have hsp := itT hsp c1
    refine lv_iload_n hx hb dX5_away_11 rfl (lv_at hl 1 rfl) ?_
    refine lv_iload_n hx hb dX5_away_12 rfl (lv_at hl 0 rfl) ?_
    refine lv_isub hx hb dX5_away_13 ?_
    have hres := Option.some.inj hsp
    subst hres
    exact W.iret (v := u1 - u0) hx hb hr (fun t ht hW => ⟨⟨u1 - u0, (), rfl, rfl, P_at ht hP⟩, hS.F ht⟩) hS.2.2 dX5_away_14
  have hsp := itF hsp c1
  refine lv_iload_n hx hb dX5_away_5 rfl (lv_at hl 0 rfl) ?_
  refine lv_iload_n hx hb dX5_away_6 rfl (lv_at hl 1 rfl) ?_
  refine lv_isub hx hb dX5_away_7 ?_
  refine lv_goto (tgt := 14) hx hb dX5_away_8 (by decide) ?_
  have hres := Option.some.inj hsp
  subst hres
  exact W.iret (v := u0 - u1) hx hb hr (fun t ht hW => ⟨⟨u0 - u1, (), rfl, rfl, P_at ht hP⟩, hS.F ht⟩) hS.2.2 dX5_away_14

theorem nd_X5_in : yX5_in.cls = RX5 ∧ yX5_in.cls ≠ "java/lang/invoke/MethodHandle" ∧ yX5_in.cls ≠ "java/lang/invoke/VarHandle" ∧ (parseMethodDescriptor yX5_in.desc).map (fun d => d.parameters.length) = some 3 := by decide +kernel
set_option maxHeartbeats 8000000 in
set_option maxRecDepth 100000 in
theorem k_X5_in (l : Launch) (D : va_G) (cI cZ cC cS : ClassId) (sz : Nat) (u0 : Int32) (u1 : Int32) (u2 : Int32) (res : Int32) (hsp : s_X5_in u0 u1 u2 = some res) : Met l yX5_in wsX5_in ({ frames := 0, cells := 0, slots := 0, locals := 0 }) (va_Pc [.int u0, .int u1, .int u2] (PB D cI cZ cC cS [] sz)) (va_Qi (fun r (_ : Unit) => r = res ∧ (res = 0 ∨ res = 1)) (fun _ t => va_P D vwCl [] t.heap) (va_A [] sz)) 0 0 (va_A [] sz) := by
  refine Met.ofW (cc := cX5_in) (maxL := 3) (ret := (some .boolean)) (by decide) rfl ?_
  intro p e s m args below meth c s₁ B hml hv
  obtain ⟨rfl, hsz, hP, hD0, hKU⟩ := hv
  have hx := B.exec
  have hb := B.bytes
  have hr := B.returns
  have hts := atoms_spec (ws := wsX5_in) B.pre
  have hown : s.vm.findClass RX5 = some m.cls := findClass_of_methodNamed B.named
  have hlocks := B.notSynchronized
  have hK := hKU.1
  subst hsz
  have hD := hD0.self (sz := s.heap.size)
  generalize hAe : va_A [] s.heap.size = A at hD ⊢
  have hA : ∀ q : Nat, s.heap.size ≤ q → A q := fun q h => by rw [← hAe]; exact Or.inr h
  have hP : va_P D vwCl [] s.heap := hP
  generalize hHe : s.heap = H at hP ⊢
  have hS : va_S A s.heap H [] := by rw [hHe]; exact va_S.rf
  have hl := lv_entry ([.int u0, .int u1, .int u2]) (n := 3) (Nat.le_of_ble_eq_true rfl)
  rw [lg_entry_eq]
  generalize (lg_sl ([.int u0, .int u1, .int u2]) ++ List.replicate (3 - (lg_sl ([.int u0, .int u1, .int u2])).length) Slot.unset).toArray = ls at hl ⊢
  have hl : lv_has ls 3 [(0, .int u0), (1, .int u1), (2, .int u2)] := hl
  unfold s_X5_in at hsp
  refine lv_iload_n hx hb dX5_in_0 rfl (lv_at hl 0 rfl) ?_
  refine lv_iload_n hx hb dX5_in_1 rfl (lv_at hl 1 rfl) ?_
  refine lv_icmp_lt (tgt := 14) hx hb dX5_in_2 (by decide) (fun c1 => ?_) (fun c1 => ?_)
  · have hsp := itT hsp c1
    refine lv_iconst (v := 0) hx hb dX5_in_14 (by decide) ?_
    have hres := Option.some.inj hsp
    subst hres
    exact W.zret (v := 0) hx hb hr (zE (Or.inl rfl)) (fun t ht hW => ⟨⟨0, (), rfl, ⟨rfl, (Or.inl rfl)⟩, P_at ht hP⟩, hS.F ht⟩) hS.2.2 dX5_in_15
  have hsp := itF hsp c1
  refine lv_iload_n hx hb dX5_in_5 rfl (lv_at hl 0 rfl) ?_
  refine lv_iload_n hx hb dX5_in_6 rfl (lv_at hl 2 rfl) ?_
  refine lv_icmp_gt (tgt := 14) hx hb dX5_in_7 (by decide) (fun c2 => ?_) (fun c2 => ?_)
  · have hsp := itT hsp c2
    refine lv_iconst (v := 0) hx hb dX5_in_14 (by decide) ?_
    have hres := Option.some.inj hsp
    subst hres
    exact W.zret (v := 0) hx hb hr (zE (Or.inl rfl)) (fun t ht hW => ⟨⟨0, (), rfl, ⟨rfl, (Or.inl rfl)⟩, P_at ht hP⟩, hS.F ht⟩) hS.2.2 dX5_in_15
  have hsp := itF hsp c2
  refine lv_iconst (v := 1) hx hb dX5_in_10 (by decide) ?_
  refine lv_goto (tgt := 15) hx hb dX5_in_11 (by decide) ?_
  have hres := Option.some.inj hsp
  subst hres
  exact W.zret (v := 1) hx hb hr (zE (Or.inr rfl)) (fun t ht hW => ⟨⟨1, (), rfl, ⟨rfl, (Or.inr rfl)⟩, P_at ht hP⟩, hS.F ht⟩) hS.2.2 dX5_in_15

theorem nd_X5_isPanel : yX5_isPanel.cls = RX5 ∧ yX5_isPanel.cls ≠ "java/lang/invoke/MethodHandle" ∧ yX5_isPanel.cls ≠ "java/lang/invoke/VarHandle" ∧ (parseMethodDescriptor yX5_isPanel.desc).map (fun d => d.parameters.length) = some 1 := by decide +kernel
set_option maxHeartbeats 8000000 in
set_option maxRecDepth 100000 in
theorem k_X5_isPanel (l : Launch) (D : va_G) (cI cZ cC cS : ClassId) (sz : Nat) (u0 : Int32) (res : Int32) (hsp : s_X5_isPanel u0 = some res) : Met l yX5_isPanel wsX5_isPanel ({ frames := 1, cells := 0, slots := 0, locals := 22 }) (va_Pc [.int u0] (PB D cI cZ cC cS [] sz)) (va_Qi (fun r (_ : Unit) => r = res ∧ (res = 0 ∨ res = 1)) (fun _ t => va_P D vwCl [] t.heap) (va_A [] sz)) 0 0 (va_A [] sz) := by
  refine Met.ofW (cc := cX5_isPanel) (maxL := 1) (ret := (some .boolean)) (by decide) rfl ?_
  intro p e s m args below meth c s₁ B hml hv
  obtain ⟨rfl, hsz, hP, hD0, hKU⟩ := hv
  have hx := B.exec
  have hb := B.bytes
  have hr := B.returns
  have hts := atoms_spec (ws := wsX5_isPanel) B.pre
  have hown : s.vm.findClass RX5 = some m.cls := findClass_of_methodNamed B.named
  have hlocks := B.notSynchronized
  have hK := hKU.1
  subst hsz
  have hD := hD0.self (sz := s.heap.size)
  generalize hAe : va_A [] s.heap.size = A at hD ⊢
  have hA : ∀ q : Nat, s.heap.size ≤ q → A q := fun q h => by rw [← hAe]; exact Or.inr h
  have hP : va_P D vwCl [] s.heap := hP
  generalize hHe : s.heap = H at hP ⊢
  have hS : va_S A s.heap H [] := by rw [hHe]; exact va_S.rf
  have hl := lv_entry ([.int u0]) (n := 1) (Nat.le_of_ble_eq_true rfl)
  rw [lg_entry_eq]
  generalize (lg_sl ([.int u0]) ++ List.replicate (1 - (lg_sl ([.int u0])).length) Slot.unset).toArray = ls at hl ⊢
  have hl : lv_has ls 1 [(0, .int u0)] := hl
  unfold s_X5_isPanel at hsp
  refine lv_iload_n hx hb dX5_isPanel_0 rfl (lv_at hl 0 rfl) ?_
  refine lv_iconst (v := 0) hx hb dX5_isPanel_1 (by decide) ?_
  refine lv_iconst (v := 5) hx hb dX5_isPanel_2 (by decide) ?_
  obtain ⟨r1, hcr1, hsp⟩ := clE hsp
  refine call_z (w1 := []) (ws' := []) (va_runS (As := [.int u0, .int 0, .int 5]) (rest := []) ⟨hx, hb, hml, hown, hts⟩ (k_X5_in l D cI cZ cC cS H.size u0 0 5 r1 hcr1) (va_cwS 3 hts gX5_isPanel_X5_in rfl rfl rfl nd_X5_in.2 ⟨Nat.le_of_ble_eq_true rfl, Nat.le_of_ble_eq_true rfl⟩) (PB.preS hKU hP hD [] rfl rfl) rfl rfl hl.1 rfl (lv_room (Nat.le_of_ble_eq_true rfl)) dX5_isPanel_3 ⟨Nat.zero_le _, Nat.zero_le _⟩) hS hP hD hA [] rfl rfl (by first | (simp only [wset, List.set_cons_zero, List.set_cons_succ]; done) | rfl) rfl (fun H locs hP hD hS hzr1 => ?_)
  have hres := Option.some.inj hsp
  subst hres
  exact W.zret (v := r1) hx hb hr (zE hzr1) (fun t ht hW => ⟨⟨r1, (), rfl, ⟨rfl, hzr1⟩, P_at ht hP⟩, hS.F ht⟩) hS.2.2 dX5_isPanel_6

theorem nd_X5_p : yX5_p.cls = RX5 ∧ yX5_p.cls ≠ "java/lang/invoke/MethodHandle" ∧ yX5_p.cls ≠ "java/lang/invoke/VarHandle" ∧ (parseMethodDescriptor yX5_p.desc).map (fun d => d.parameters.length) = some 1 := by decide +kernel
set_option maxHeartbeats 8000000 in
set_option maxRecDepth 100000 in
theorem k_X5_p (l : Launch) (D : va_G) (cI cZ cC cS : ClassId) (sz : Nat) (u0 : Int32) (res : Int32) (hsp : s_X5_p u0 = some res) : Met l yX5_p wsX5_p ({ frames := 0, cells := 0, slots := 0, locals := 0 }) (va_Pc [.int u0] (PB D cI cZ cC cS [] sz)) (va_Qi (fun r (_ : Unit) => r = res) (fun _ t => va_P D vwCl [] t.heap) (va_A [] sz)) 0 0 (va_A [] sz) := by
  refine Met.ofW (cc := cX5_p) (maxL := 1) (ret := (some .int)) (by decide) rfl ?_
  intro p e s m args below meth c s₁ B hml hv
  obtain ⟨rfl, hsz, hP, hD0, hKU⟩ := hv
  have hx := B.exec
  have hb := B.bytes
  have hr := B.returns
  have hts := atoms_spec (ws := wsX5_p) B.pre
  have hown : s.vm.findClass RX5 = some m.cls := findClass_of_methodNamed B.named
  have hlocks := B.notSynchronized
  have hK := hKU.1
  subst hsz
  have hD := hD0.self (sz := s.heap.size)
  generalize hAe : va_A [] s.heap.size = A at hD ⊢
  have hA : ∀ q : Nat, s.heap.size ≤ q → A q := fun q h => by rw [← hAe]; exact Or.inr h
  have hP : va_P D vwCl [] s.heap := hP
  generalize hHe : s.heap = H at hP ⊢
  have hS : va_S A s.heap H [] := by rw [hHe]; exact va_S.rf
  have hl := lv_entry ([.int u0]) (n := 1) (Nat.le_of_ble_eq_true rfl)
  rw [lg_entry_eq]
  generalize (lg_sl ([.int u0]) ++ List.replicate (1 - (lg_sl ([.int u0])).length) Slot.unset).toArray = ls at hl ⊢
  have hl : lv_has ls 1 [(0, .int u0)] := hl
  unfold s_X5_p at hsp
  refine lv_bipush (v := 7) hx hb dX5_p_0 (by decide) ?_
  refine lv_iconst (v := 5) hx hb dX5_p_2 (by decide) ?_
  refine lv_iload_n hx hb dX5_p_3 rfl (lv_at hl 0 rfl) ?_
  refine lv_imul hx hb dX5_p_4 ?_
  refine lv_iadd hx hb dX5_p_5 ?_
  have hres := Option.some.inj hsp
  subst hres
  exact W.iret (v := 7 + (5 * u0)) hx hb hr (fun t ht hW => ⟨⟨7 + (5 * u0), (), rfl, rfl, P_at ht hP⟩, hS.F ht⟩) hS.2.2 dX5_p_6

theorem nd_X5_drops : yX5_drops.cls = RX5 ∧ yX5_drops.cls ≠ "java/lang/invoke/MethodHandle" ∧ yX5_drops.cls ≠ "java/lang/invoke/VarHandle" ∧ (parseMethodDescriptor yX5_drops.desc).map (fun d => d.parameters.length) = some 1 := by decide +kernel
set_option maxHeartbeats 8000000 in
set_option maxRecDepth 100000 in
theorem k_X5_drops (l : Launch) (D : va_G) (cI cZ cC cS : ClassId) (sz : Nat) (a0 a1 : Nat) (w0_1 : Value) (w0_2 : Value) (w0_3 : Value) (w0_4 : Value) (w0_5 : Value) (w0_6 : Value) (w0_7 : Value) (w0_8 : Value) (w0_9 : Value) (w0_10 : Value) (w0_11 : Value) (w0_12 : Value) (f1 : Nat → Int32) (u1 : Int32) (res : Int32) (hsp : s_X5_drops f1 u1 = some res) : Met l yX5_drops wsX5_drops ({ frames := 0, cells := 0, slots := 0, locals := 0 }) (va_Pc [.ref a0, .int u1] (PB D cI cZ cC cS [(a0, .inr (5, [.ref a1, w0_1, w0_2, w0_3, w0_4, w0_5, w0_6, w0_7, w0_8, w0_9, w0_10, w0_11, w0_12])), (a1, .inl (cI, 99, .inl f1))] sz)) (va_Qi (fun r (_ : Unit) => r = res) (fun _ t => va_P D vwCl [(a0, .inr (5, [.ref a1, w0_1, w0_2, w0_3, w0_4, w0_5, w0_6, w0_7, w0_8, w0_9, w0_10, w0_11, w0_12])), (a1, .inl (cI, 99, .inl f1))] t.heap) (va_A [(a0, .inr (5, [.ref a1, w0_1, w0_2, w0_3, w0_4, w0_5, w0_6, w0_7, w0_8, w0_9, w0_10, w0_11, w0_12])), (a1, .inl (cI, 99, .inl f1))] sz)) 0 0 (va_A [(a0, .inr (5, [.ref a1, w0_1, w0_2, w0_3, w0_4, w0_5, w0_6, w0_7, w0_8, w0_9, w0_10, w0_11, w0_12])), (a1, .inl (cI, 99, .inl f1))] sz) := by
  refine Met.ofW (cc := cX5_drops) (maxL := 2) (ret := (some .int)) (by decide) rfl ?_
  intro p e s m args below meth c s₁ B hml hv
  obtain ⟨rfl, hsz, hP, hD0, hKU⟩ := hv
  have hx := B.exec
  have hb := B.bytes
  have hr := B.returns
  have hts := atoms_spec (ws := wsX5_drops) B.pre
  have hown : s.vm.findClass RX5 = some m.cls := findClass_of_methodNamed B.named
  have hlocks := B.notSynchronized
  have hK := hKU.1
  have hf_7 := hts (.fieldLink RX5 7 "ThinnedPotsModel" "s" "[I") (by decide +kernel)
  have hi_X5 : ∀ w ∈ u_ws RX5 TX5 13, w ∈ wsX5_drops := by decide +kernel
  subst hsz
  have hD := hD0.self (sz := s.heap.size)
  generalize hAe : va_A [(a0, .inr (5, [.ref a1, w0_1, w0_2, w0_3, w0_4, w0_5, w0_6, w0_7, w0_8, w0_9, w0_10, w0_11, w0_12])), (a1, .inl (cI, 99, .inl f1))] s.heap.size = A at hD ⊢
  have hA : ∀ q : Nat, s.heap.size ≤ q → A q := fun q h => by rw [← hAe]; exact Or.inr h
  have hP : va_P D vwCl [(a0, .inr (5, [.ref a1, w0_1, w0_2, w0_3, w0_4, w0_5, w0_6, w0_7, w0_8, w0_9, w0_10, w0_11, w0_12])), (a1, .inl (cI, 99, .inl f1))] s.heap := hP
  generalize hHe : s.heap = H at hP ⊢
  have hS : va_S A s.heap H [] := by rw [hHe]; exact va_S.rf
  have hl := lv_entry ([.ref a0, .int u1]) (n := 2) (Nat.le_of_ble_eq_true rfl)
  rw [lg_entry_eq]
  generalize (lg_sl ([.ref a0, .int u1]) ++ List.replicate (2 - (lg_sl ([.ref a0, .int u1])).length) Slot.unset).toArray = ls at hl ⊢
  have hl : lv_has ls 2 [(0, .ref a0), (1, .int u1)] := hl
  unfold s_X5_drops at hsp
  refine lv_aload_n hx hb dX5_drops_0 rfl (lv_at hl 0 rfl) ?_
  refine va_get (D := D) (ci := 5) (v := .ref a1) (C := RX5) (T := TX5) (N := 13) hx hb hts hi_X5 hown hK hP 0 rfl rfl 0 (by decide) hf_7 (fun _ h9 => h9) rfl dX5_drops_1 ?_
  refine lv_iload_n hx hb dX5_drops_4 rfl (lv_at hl 1 rfl) ?_
  obtain ⟨x1, ex1, hnx1, hsp⟩ := ldE hsp
  refine r_iald hx hb hK hP 1 0 rfl rfl ex1 hnx1 dX5_drops_5 ?_
  refine lv_aload_n hx hb dX5_drops_6 rfl (lv_at hl 0 rfl) ?_
  refine va_get (D := D) (ci := 5) (v := .ref a1) (C := RX5) (T := TX5) (N := 13) hx hb hts hi_X5 hown hK hP 0 rfl rfl 0 (by decide) hf_7 (fun _ h9 => h9) rfl dX5_drops_7 ?_
  refine lv_iload_n hx hb dX5_drops_10 rfl (lv_at hl 1 rfl) ?_
  refine lv_iconst (v := 1) hx hb dX5_drops_11 (by decide) ?_
  refine lv_iadd hx hb dX5_drops_12 ?_
  obtain ⟨x2, ex2, hnx2, hsp⟩ := ldE hsp
  refine r_iald hx hb hK hP 1 0 rfl rfl ex2 hnx2 dX5_drops_13 ?_
  refine lv_iadd hx hb dX5_drops_14 ?_
  refine lv_aload_n hx hb dX5_drops_15 rfl (lv_at hl 0 rfl) ?_
  refine va_get (D := D) (ci := 5) (v := .ref a1) (C := RX5) (T := TX5) (N := 13) hx hb hts hi_X5 hown hK hP 0 rfl rfl 0 (by decide) hf_7 (fun _ h9 => h9) rfl dX5_drops_16 ?_
  refine lv_iload_n hx hb dX5_drops_19 rfl (lv_at hl 1 rfl) ?_
  refine lv_iconst (v := 2) hx hb dX5_drops_20 (by decide) ?_
  refine lv_iadd hx hb dX5_drops_21 ?_
  obtain ⟨x3, ex3, hnx3, hsp⟩ := ldE hsp
  refine r_iald hx hb hK hP 1 0 rfl rfl ex3 hnx3 dX5_drops_22 ?_
  refine lv_iadd hx hb dX5_drops_23 ?_
  refine lv_aload_n hx hb dX5_drops_24 rfl (lv_at hl 0 rfl) ?_
  refine va_get (D := D) (ci := 5) (v := .ref a1) (C := RX5) (T := TX5) (N := 13) hx hb hts hi_X5 hown hK hP 0 rfl rfl 0 (by decide) hf_7 (fun _ h9 => h9) rfl dX5_drops_25 ?_
  refine lv_iload_n hx hb dX5_drops_28 rfl (lv_at hl 1 rfl) ?_
  refine lv_iconst (v := 3) hx hb dX5_drops_29 (by decide) ?_
  refine lv_iadd hx hb dX5_drops_30 ?_
  obtain ⟨x4, ex4, hnx4, hsp⟩ := ldE hsp
  refine r_iald hx hb hK hP 1 0 rfl rfl ex4 hnx4 dX5_drops_31 ?_
  refine lv_iadd hx hb dX5_drops_32 ?_
  have hres := Option.some.inj hsp
  subst hres
  exact W.iret (v := ((x1 + x2) + x3) + x4) hx hb hr (fun t ht hW => ⟨⟨((x1 + x2) + x3) + x4, (), rfl, rfl, P_at ht hP⟩, hS.F ht⟩) hS.2.2 dX5_drops_33

theorem nd_X5_n : yX5_n.cls = RX5 ∧ yX5_n.cls ≠ "java/lang/invoke/MethodHandle" ∧ yX5_n.cls ≠ "java/lang/invoke/VarHandle" ∧ (parseMethodDescriptor yX5_n.desc).map (fun d => d.parameters.length) = some 1 := by decide +kernel
set_option maxHeartbeats 8000000 in
set_option maxRecDepth 100000 in
theorem k_X5_n (l : Launch) (D : va_G) (cI cZ cC cS : ClassId) (sz : Nat) (u0 : Int32) (res : Int32) (hsp : s_X5_n u0 = some res) : Met l yX5_n wsX5_n ({ frames := 0, cells := 0, slots := 0, locals := 0 }) (va_Pc [.int u0] (PB D cI cZ cC cS [] sz)) (va_Qi (fun r (_ : Unit) => r = res) (fun _ t => va_P D vwCl [] t.heap) (va_A [] sz)) 0 0 (va_A [] sz) := by
  refine Met.ofW (cc := cX5_n) (maxL := 1) (ret := (some .int)) (by decide) rfl ?_
  intro p e s m args below meth c s₁ B hml hv
  obtain ⟨rfl, hsz, hP, hD0, hKU⟩ := hv
  have hx := B.exec
  have hb := B.bytes
  have hr := B.returns
  have hts := atoms_spec (ws := wsX5_n) B.pre
  have hown : s.vm.findClass RX5 = some m.cls := findClass_of_methodNamed B.named
  have hlocks := B.notSynchronized
  have hK := hKU.1
  subst hsz
  have hD := hD0.self (sz := s.heap.size)
  generalize hAe : va_A [] s.heap.size = A at hD ⊢
  have hA : ∀ q : Nat, s.heap.size ≤ q → A q := fun q h => by rw [← hAe]; exact Or.inr h
  have hP : va_P D vwCl [] s.heap := hP
  generalize hHe : s.heap = H at hP ⊢
  have hS : va_S A s.heap H [] := by rw [hHe]; exact va_S.rf
  have hl := lv_entry ([.int u0]) (n := 1) (Nat.le_of_ble_eq_true rfl)
  rw [lg_entry_eq]
  generalize (lg_sl ([.int u0]) ++ List.replicate (1 - (lg_sl ([.int u0])).length) Slot.unset).toArray = ls at hl ⊢
  have hl : lv_has ls 1 [(0, .int u0)] := hl
  unfold s_X5_n at hsp
  refine lv_bipush (v := 51) hx hb dX5_n_0 (by decide) ?_
  refine lv_bipush (v := 8) hx hb dX5_n_2 (by decide) ?_
  refine lv_iload_n hx hb dX5_n_4 rfl (lv_at hl 0 rfl) ?_
  refine lv_imul hx hb dX5_n_5 ?_
  refine lv_iadd hx hb dX5_n_6 ?_
  have hres := Option.some.inj hsp
  subst hres
  exact W.iret (v := 51 + (8 * u0)) hx hb hr (fun t ht hW => ⟨⟨51 + (8 * u0), (), rfl, rfl, P_at ht hP⟩, hS.F ht⟩) hS.2.2 dX5_n_7

theorem nd_X5_distance : yX5_distance.cls = RX5 ∧ yX5_distance.cls ≠ "java/lang/invoke/MethodHandle" ∧ yX5_distance.cls ≠ "java/lang/invoke/VarHandle" ∧ (parseMethodDescriptor yX5_distance.desc).map (fun d => d.parameters.length) = some 1 := by decide +kernel
set_option maxHeartbeats 8000000 in
set_option maxRecDepth 100000 in
theorem k_X5_distance (l : Launch) (D : va_G) (cI cZ cC cS : ClassId) (sz : Nat) (a0 a1 a7 : Nat) (w0_1 : Value) (w0_2 : Value) (w0_3 : Value) (w0_4 : Value) (w0_5 : Value) (w0_7 : Value) (w0_8 : Value) (w0_9 : Value) (w0_10 : Value) (w0_11 : Value) (w0_12 : Value) (f1 : Nat → Int32) (f7 : Nat → Int32) (u1 : Int32) (res : Int32) (hsp : s_X5_distance f1 f7 u1 = some res) : Met l yX5_distance wsX5_distance ({ frames := 1, cells := 0, slots := 0, locals := 21 }) (va_Pc [.ref a0, .int u1] (PB D cI cZ cC cS [(a0, .inr (5, [.ref a1, w0_1, w0_2, w0_3, w0_4, w0_5, .ref a7, w0_7, w0_8, w0_9, w0_10, w0_11, w0_12])), (a1, .inl (cI, 99, .inl f1)), (a7, .inl (cI, 3, .inl f7))] sz)) (va_Qi (fun r (_ : Unit) => r = res) (fun _ t => va_P D vwCl [(a0, .inr (5, [.ref a1, w0_1, w0_2, w0_3, w0_4, w0_5, .ref a7, w0_7, w0_8, w0_9, w0_10, w0_11, w0_12])), (a1, .inl (cI, 99, .inl f1)), (a7, .inl (cI, 3, .inl f7))] t.heap) (va_A [(a0, .inr (5, [.ref a1, w0_1, w0_2, w0_3, w0_4, w0_5, .ref a7, w0_7, w0_8, w0_9, w0_10, w0_11, w0_12])), (a1, .inl (cI, 99, .inl f1)), (a7, .inl (cI, 3, .inl f7))] sz)) 0 0 (va_A [(a0, .inr (5, [.ref a1, w0_1, w0_2, w0_3, w0_4, w0_5, .ref a7, w0_7, w0_8, w0_9, w0_10, w0_11, w0_12])), (a1, .inl (cI, 99, .inl f1)), (a7, .inl (cI, 3, .inl f7))] sz) := by
  refine Met.ofW (cc := cX5_distance) (maxL := 4) (ret := (some .int)) (by decide) rfl ?_
  intro p e s m args below meth c s₁ B hml hv
  obtain ⟨rfl, hsz, hP, hD0, hKU⟩ := hv
  have hx := B.exec
  have hb := B.bytes
  have hr := B.returns
  have hts := atoms_spec (ws := wsX5_distance) B.pre
  have hown : s.vm.findClass RX5 = some m.cls := findClass_of_methodNamed B.named
  have hlocks := B.notSynchronized
  have hK := hKU.1
  have hf_29 := hts (.fieldLink RX5 29 "ThinnedPotsModel" "shade" "[I") (by decide +kernel)
  have hi_X5 : ∀ w ∈ u_ws RX5 TX5 13, w ∈ wsX5_distance := by decide +kernel
  have hf_7 := hts (.fieldLink RX5 7 "ThinnedPotsModel" "s" "[I") (by decide +kernel)
  subst hsz
  have hD := hD0.self (sz := s.heap.size)
  generalize hAe : va_A [(a0, .inr (5, [.ref a1, w0_1, w0_2, w0_3, w0_4, w0_5, .ref a7, w0_7, w0_8, w0_9, w0_10, w0_11, w0_12])), (a1, .inl (cI, 99, .inl f1)), (a7, .inl (cI, 3, .inl f7))] s.heap.size = A at hD ⊢
  have hA : ∀ q : Nat, s.heap.size ≤ q → A q := fun q h => by rw [← hAe]; exact Or.inr h
  have hP : va_P D vwCl [(a0, .inr (5, [.ref a1, w0_1, w0_2, w0_3, w0_4, w0_5, .ref a7, w0_7, w0_8, w0_9, w0_10, w0_11, w0_12])), (a1, .inl (cI, 99, .inl f1)), (a7, .inl (cI, 3, .inl f7))] s.heap := hP
  generalize hHe : s.heap = H at hP ⊢
  have hS : va_S A s.heap H [] := by rw [hHe]; exact va_S.rf
  have hl := lv_entry ([.ref a0, .int u1]) (n := 4) (Nat.le_of_ble_eq_true rfl)
  rw [lg_entry_eq]
  generalize (lg_sl ([.ref a0, .int u1]) ++ List.replicate (4 - (lg_sl ([.ref a0, .int u1])).length) Slot.unset).toArray = ls at hl ⊢
  have hl : lv_has ls 4 [(0, .ref a0), (1, .int u1)] := hl
  unfold s_X5_distance at hsp
  refine lv_iconst (v := 0) hx hb dX5_distance_0 (by decide) ?_
  refine lv_istore_n (lv' := [(2, .int 0), (0, .ref a0), (1, .int u1)]) hx hb dX5_distance_1 rfl hl (by decide) rfl (fun ls hl => ?_)
  refine lv_iconst (v := 0) hx hb dX5_distance_2 (by decide) ?_
  refine lv_istore_n (lv' := [(3, .int 0), (2, .int 0), (0, .ref a0), (1, .int u1)]) hx hb dX5_distance_3 rfl hl (by decide) rfl (fun ls hl => ?_)
  refine ex_rule (D := D) (K := s_X5_distance_X1) (P := fun (t1 : Int32) => [(a0, .inr (5, [.ref a1, w0_1, w0_2, w0_3, w0_4, w0_5, .ref a7, w0_7, w0_8, w0_9, w0_10, w0_11, w0_12])), (a1, .inl (cI, 99, .inl f1)), (a7, .inl (cI, 3, .inl f7))]) (L := fun (t1 : Int32) => [(2, .int t1)]) (nL := 4) (pcx := 38) (res := res) (A := A) (H0 := s.heap) ?_ (fun hx1 => ?_)
  · intro t1 H locs hsp hP hD hS ls hl
    obtain ⟨x3, rfl⟩ : ∃ z, z = t1 := ⟨_, rfl⟩
    unfold s_X5_distance_X1 at hsp; try dsimp only at hsp
    have hP : va_P D vwCl [(a0, .inr (5, [.ref a1, w0_1, w0_2, w0_3, w0_4, w0_5, .ref a7, w0_7, w0_8, w0_9, w0_10, w0_11, w0_12])), (a1, .inl (cI, 99, .inl f1)), (a7, .inl (cI, 3, .inl f7))] H := hP
    have hD : va_D A [(a0, .inr (5, [.ref a1, w0_1, w0_2, w0_3, w0_4, w0_5, .ref a7, w0_7, w0_8, w0_9, w0_10, w0_11, w0_12])), (a1, .inl (cI, 99, .inl f1)), (a7, .inl (cI, 3, .inl f7))] := hD
    have hl : lv_has ls 4 [(2, .int x3)] := hl
    refine lv_iload_n hx hb dX5_distance_38 rfl (lv_at hl 0 rfl) ?_
    have hres := Option.some.inj hsp
    subst hres
    exact W.iret (v := x3) hx hb hr (fun t ht hW => ⟨⟨x3, (), rfl, rfl, P_at ht hP⟩, hS.F ht⟩) hS.2.2 dX5_distance_39
  have hl := lv_sub hl (l' := [(0, .ref a0), (1, .int u1), (2, .int 0), (3, .int 0)]) [2, 3, 1, 0] rfl
  refine lp_rule (D := D) (F := s_X5_distance_L1 f7 u1 f1 (s_X5_distance_X1)) (P := fun (tv : Int32 × Int32) => [(a0, .inr (5, [.ref a1, w0_1, w0_2, w0_3, w0_4, w0_5, .ref a7, w0_7, w0_8, w0_9, w0_10, w0_11, w0_12])), (a1, .inl (cI, 99, .inl f1)), (a7, .inl (cI, 3, .inl f7))]) (L := fun (tv : Int32 × Int32) => [(0, .ref a0), (1, .int u1), (2, .int tv.1), (3, .int tv.2)]) (nL := 4) (res := res) (A := A) (H0 := s.heap) (fun _ => rfl) ?_ 1000 (0, 0) _ _ hsp hP hD hS _ hl
  · intro n1 ih1 tv H locs hsp hP hD hS ls hl
    obtain ⟨x1, x2⟩ := tv
    have hsp : s_X5_distance_B1  f7 u1 f1 (s_X5_distance_X1) (s_X5_distance_L1 f7 u1 f1 (s_X5_distance_X1) n1) x1 x2 = some res := hsp
    unfold s_X5_distance_B1 at hsp
    have hP : va_P D vwCl [(a0, .inr (5, [.ref a1, w0_1, w0_2, w0_3, w0_4, w0_5, .ref a7, w0_7, w0_8, w0_9, w0_10, w0_11, w0_12])), (a1, .inl (cI, 99, .inl f1)), (a7, .inl (cI, 3, .inl f7))] H := hP
    have hD : va_D A [(a0, .inr (5, [.ref a1, w0_1, w0_2, w0_3, w0_4, w0_5, .ref a7, w0_7, w0_8, w0_9, w0_10, w0_11, w0_12])), (a1, .inl (cI, 99, .inl f1)), (a7, .inl (cI, 3, .inl f7))] := hD
    have hl : lv_has ls 4 [(0, .ref a0), (1, .int u1), (2, .int x1), (3, .int x2)] := hl
    refine lv_iload_n hx hb dX5_distance_4 rfl (lv_at hl 3 rfl) ?_
    refine lv_iconst (v := 3) hx hb dX5_distance_5 (by decide) ?_
    refine lv_icmp_ge (tgt := 38) hx hb dX5_distance_6 (by decide) (fun c4 => ?_) (fun c4 => ?_)
    · have hsp := itT hsp c4
      exact hx1 x1 _ _ hsp hP hD hS _ (lv_sub hl [2] rfl)
    have hsp := itF hsp c4
    refine lv_iload_n hx hb dX5_distance_9 rfl (lv_at hl 2 rfl) ?_
    refine lv_aload_n hx hb dX5_distance_10 rfl (lv_at hl 0 rfl) ?_
    refine va_get (D := D) (ci := 5) (v := .ref a7) (C := RX5) (T := TX5) (N := 13) hx hb hts hi_X5 hown hK hP 0 rfl rfl 6 (by decide) hf_29 (fun _ h9 => h9) rfl dX5_distance_11 ?_
    refine lv_iload_n hx hb dX5_distance_14 rfl (lv_at hl 3 rfl) ?_
    obtain ⟨x5, ex5, hnx5, hsp⟩ := ldE hsp
    refine r_iald hx hb hK hP 2 0 rfl rfl ex5 hnx5 dX5_distance_15 ?_
    refine lv_aload_n hx hb dX5_distance_16 rfl (lv_at hl 0 rfl) ?_
    refine va_get (D := D) (ci := 5) (v := .ref a1) (C := RX5) (T := TX5) (N := 13) hx hb hts hi_X5 hown hK hP 0 rfl rfl 0 (by decide) hf_7 (fun _ h9 => h9) rfl dX5_distance_17 ?_
    refine lv_iload_n hx hb dX5_distance_20 rfl (lv_at hl 1 rfl) ?_
    obtain ⟨r6, hcr6, hsp⟩ := clE hsp
    refine call_i (w1 := []) (ws' := [(a0, .inr (5, [.ref a1, w0_1, w0_2, w0_3, w0_4, w0_5, .ref a7, w0_7, w0_8, w0_9, w0_10, w0_11, w0_12])), (a1, .inl (cI, 99, .inl f1)), (a7, .inl (cI, 3, .inl f7))]) (va_runS (As := [.int u1]) (rest := [.ref a1, .int x5, .int x1]) ⟨hx, hb, hml, hown, hts⟩ (k_X5_n l D cI cZ cC cS H.size u1 r6 hcr6) (va_cwS 1 hts gX5_distance_X5_n rfl rfl rfl nd_X5_n.2 ⟨Nat.le_of_ble_eq_true rfl, Nat.le_of_ble_eq_true rfl⟩) (PB.preS hKU hP hD [] rfl rfl) rfl rfl hl.1 rfl (lv_room (Nat.le_of_ble_eq_true rfl)) dX5_distance_21 ⟨Nat.zero_le _, Nat.zero_le _⟩) hS hP hD hA [] rfl rfl (by first | (simp only [wset, List.set_cons_zero, List.set_cons_succ]; done) | rfl) rfl (fun H locs hP hD hS => ?_)
    refine lv_iload_n hx hb dX5_distance_24 rfl (lv_at hl 3 rfl) ?_
    refine lv_iadd hx hb dX5_distance_25 ?_
    obtain ⟨x7, ex7, hnx7, hsp⟩ := ldE hsp
    refine r_iald hx hb hK hP 1 0 rfl rfl ex7 hnx7 dX5_distance_26 ?_
    obtain ⟨r8, hcr8, hsp⟩ := clE hsp
    refine call_i (w1 := []) (ws' := [(a0, .inr (5, [.ref a1, w0_1, w0_2, w0_3, w0_4, w0_5, .ref a7, w0_7, w0_8, w0_9, w0_10, w0_11, w0_12])), (a1, .inl (cI, 99, .inl f1)), (a7, .inl (cI, 3, .inl f7))]) (va_runS (As := [.int x5, .int x7]) (rest := [.int x1]) ⟨hx, hb, hml, hown, hts⟩ (k_X5_away l D cI cZ cC cS H.size x5 x7 r8 hcr8) (va_cwS 2 hts gX5_distance_X5_away rfl rfl rfl nd_X5_away.2 ⟨Nat.le_of_ble_eq_true rfl, Nat.le_of_ble_eq_true rfl⟩) (PB.preS hKU hP hD [] rfl rfl) rfl rfl hl.1 rfl (lv_room (Nat.le_of_ble_eq_true rfl)) dX5_distance_27 ⟨Nat.zero_le _, Nat.zero_le _⟩) hS hP hD hA [] rfl rfl (by first | (simp only [wset, List.set_cons_zero, List.set_cons_succ]; done) | rfl) rfl (fun H locs hP hD hS => ?_)
    refine lv_iadd hx hb dX5_distance_30 ?_
    obtain ⟨x9, ex9, hsp⟩ := nmE hsp
    refine r_top ex9 ?_
    refine lv_istore_n (lv' := [(2, .int x9), (0, .ref a0), (1, .int u1), (3, .int x2)]) hx hb dX5_distance_31 rfl hl (by decide) rfl (fun ls hl => ?_)
    obtain ⟨x10, ex10, hsp⟩ := nmE hsp
    refine lv_iinc (k := 3) (v := x10) (lv' := [(3, .int x10), (2, .int x9), (0, .ref a0), (1, .int u1)]) hx hb dX5_distance_32 hl rfl (by rw [ex10]; rfl) (by decide) rfl (fun ls hl => ?_)
    refine lv_goto (tgt := 4) hx hb dX5_distance_35 (by decide) ?_
    exact ih1 (x9, x10) _ _ hsp hP hD hS _ (lv_sub hl [2, 3, 1, 0] rfl)

theorem nd_X5_mixed : yX5_mixed.cls = RX5 ∧ yX5_mixed.cls ≠ "java/lang/invoke/MethodHandle" ∧ yX5_mixed.cls ≠ "java/lang/invoke/VarHandle" ∧ (parseMethodDescriptor yX5_mixed.desc).map (fun d => d.parameters.length) = some 5 := by decide +kernel
set_option maxHeartbeats 8000000 in
set_option maxRecDepth 100000 in
theorem k_X5_mixed (l : Launch) (D : va_G) (cI cZ cC cS : ClassId) (sz : Nat) (a0 a1 a7 : Nat) (w0_1 : Value) (w0_2 : Value) (w0_3 : Value) (w0_4 : Value) (w0_5 : Value) (w0_7 : Value) (w0_8 : Value) (w0_9 : Value) (w0_10 : Value) (w0_11 : Value) (w0_12 : Value) (f1 : Nat → Int32) (f7 : Nat → Int32) (u1 : Int32) (u2 : Int32) (u3 : Int32) (u4 : Int32) (u5 : Int32) (res : Int32 × (Nat → Int32)) (hsp : s_X5_mixed f1 f7 u1 u2 u3 u4 u5 = some res) : Met l yX5_mixed wsX5_mixed ({ frames := 2, cells := 0, slots := 0, locals := 44 }) (va_Pc [.ref a0, .int u1, .int u2, .int u3, .int u4, .int u5] (PB D cI cZ cC cS [(a0, .inr (5, [.ref a1, w0_1, w0_2, w0_3, w0_4, w0_5, .ref a7, w0_7, w0_8, w0_9, w0_10, w0_11, w0_12])), (a1, .inl (cI, 99, .inl f1)), (a7, .inl (cI, 3, .inl f7))] sz)) (va_Qi (fun r (_ : Unit) => r = res.1) (fun _ t => va_P D vwCl [(a0, .inr (5, [.ref a1, w0_1, w0_2, w0_3, w0_4, w0_5, .ref a7, w0_7, w0_8, w0_9, w0_10, w0_11, w0_12])), (a1, .inl (cI, 99, .inl f1)), (a7, .inl (cI, 3, .inl res.2))] t.heap) (va_A [(a0, .inr (5, [.ref a1, w0_1, w0_2, w0_3, w0_4, w0_5, .ref a7, w0_7, w0_8, w0_9, w0_10, w0_11, w0_12])), (a1, .inl (cI, 99, .inl f1)), (a7, .inl (cI, 3, .inl f7))] sz)) 0 0 (va_A [(a0, .inr (5, [.ref a1, w0_1, w0_2, w0_3, w0_4, w0_5, .ref a7, w0_7, w0_8, w0_9, w0_10, w0_11, w0_12])), (a1, .inl (cI, 99, .inl f1)), (a7, .inl (cI, 3, .inl f7))] sz) := by
  refine Met.ofW (cc := cX5_mixed) (maxL := 10) (ret := (some .int)) (by decide) rfl ?_
  intro p e s m args below meth c s₁ B hml hv
  obtain ⟨rfl, hsz, hP, hD0, hKU⟩ := hv
  have hx := B.exec
  have hb := B.bytes
  have hr := B.returns
  have hts := atoms_spec (ws := wsX5_mixed) B.pre
  have hown : s.vm.findClass RX5 = some m.cls := findClass_of_methodNamed B.named
  have hlocks := B.notSynchronized
  have hK := hKU.1
  have hf_7 := hts (.fieldLink RX5 7 "ThinnedPotsModel" "s" "[I") (by decide +kernel)
  have hi_X5 : ∀ w ∈ u_ws RX5 TX5 13, w ∈ wsX5_mixed := by decide +kernel
  have hf_29 := hts (.fieldLink RX5 29 "ThinnedPotsModel" "shade" "[I") (by decide +kernel)
  subst hsz
  have hD := hD0.self (sz := s.heap.size)
  generalize hAe : va_A [(a0, .inr (5, [.ref a1, w0_1, w0_2, w0_3, w0_4, w0_5, .ref a7, w0_7, w0_8, w0_9, w0_10, w0_11, w0_12])), (a1, .inl (cI, 99, .inl f1)), (a7, .inl (cI, 3, .inl f7))] s.heap.size = A at hD ⊢
  have hA : ∀ q : Nat, s.heap.size ≤ q → A q := fun q h => by rw [← hAe]; exact Or.inr h
  have hP : va_P D vwCl [(a0, .inr (5, [.ref a1, w0_1, w0_2, w0_3, w0_4, w0_5, .ref a7, w0_7, w0_8, w0_9, w0_10, w0_11, w0_12])), (a1, .inl (cI, 99, .inl f1)), (a7, .inl (cI, 3, .inl f7))] s.heap := hP
  generalize hHe : s.heap = H at hP ⊢
  have hS : va_S A s.heap H [] := by rw [hHe]; exact va_S.rf
  have hl := lv_entry ([.ref a0, .int u1, .int u2, .int u3, .int u4, .int u5]) (n := 10) (Nat.le_of_ble_eq_true rfl)
  rw [lg_entry_eq]
  generalize (lg_sl ([.ref a0, .int u1, .int u2, .int u3, .int u4, .int u5]) ++ List.replicate (10 - (lg_sl ([.ref a0, .int u1, .int u2, .int u3, .int u4, .int u5])).length) Slot.unset).toArray = ls at hl ⊢
  have hl : lv_has ls 10 [(0, .ref a0), (1, .int u1), (2, .int u2), (3, .int u3), (4, .int u4), (5, .int u5)] := hl
  unfold s_X5_mixed at hsp
  refine lv_aload_n hx hb dX5_mixed_0 rfl (lv_at hl 0 rfl) ?_
  refine lv_iload_n hx hb dX5_mixed_1 rfl (lv_at hl 2 rfl) ?_
  obtain ⟨r1, hcr1, hsp⟩ := clE hsp
  refine call_i (w1 := []) (ws' := [(a0, .inr (5, [.ref a1, w0_1, w0_2, w0_3, w0_4, w0_5, .ref a7, w0_7, w0_8, w0_9, w0_10, w0_11, w0_12])), (a1, .inl (cI, 99, .inl f1)), (a7, .inl (cI, 3, .inl f7))]) (va_runS (As := [.int u2]) (rest := [.ref a0]) ⟨hx, hb, hml, hown, hts⟩ (k_X5_p l D cI cZ cC cS H.size u2 r1 hcr1) (va_cwS 1 hts gX5_mixed_X5_p rfl rfl rfl nd_X5_p.2 ⟨Nat.le_of_ble_eq_true rfl, Nat.le_of_ble_eq_true rfl⟩) (PB.preS hKU hP hD [] rfl rfl) rfl rfl hl.1 rfl (lv_room (Nat.le_of_ble_eq_true rfl)) dX5_mixed_2 ⟨Nat.zero_le _, Nat.zero_le _⟩) hS hP hD hA [] rfl rfl (by first | (simp only [wset, List.set_cons_zero, List.set_cons_succ]; done) | rfl) rfl (fun H locs hP hD hS => ?_)
  obtain ⟨r2, hcr2, hsp⟩ := clE hsp
  refine call_i (w1 := [(a0, .inr (5, [.ref a1, w0_1, w0_2, w0_3, w0_4, w0_5, .ref a7, w0_7, w0_8, w0_9, w0_10, w0_11, w0_12])), (a1, .inl (cI, 99, .inl f1))]) (ws' := [(a0, .inr (5, [.ref a1, w0_1, w0_2, w0_3, w0_4, w0_5, .ref a7, w0_7, w0_8, w0_9, w0_10, w0_11, w0_12])), (a1, .inl (cI, 99, .inl f1)), (a7, .inl (cI, 3, .inl f7))]) (va_runV (As := [.int r1]) (rest := []) ⟨hx, hb, hml, hown, hts⟩ (k_X5_drops l D cI cZ cC cS H.size a0 a1 (w0_1) (w0_2) (w0_3) (w0_4) (w0_5) (.ref a7) (w0_7) (w0_8) (w0_9) (w0_10) (w0_11) (w0_12) f1 r1 r2 hcr2) (cwV 1 hts gX5_mixed_X5_drops rfl rfl rfl nd_X5_drops ⟨Nat.le_of_ble_eq_true rfl, Nat.le_of_ble_eq_true rfl⟩) (PB.preV (ci := 5) (q0 := 0) hKU hP hD [0, 1] rfl rfl rfl rfl) rfl rfl hl.1 rfl (lv_room (Nat.le_of_ble_eq_true rfl)) dX5_mixed_5 ⟨Nat.zero_le _, Nat.zero_le _⟩) hS hP hD hA [0, 1] rfl rfl (by first | (simp only [wset, List.set_cons_zero, List.set_cons_succ]; done) | rfl) rfl (fun H locs hP hD hS => ?_)
  refine lv_istore (lv' := [(6, .int r2), (0, .ref a0), (1, .int u1), (2, .int u2), (3, .int u3), (4, .int u4), (5, .int u5)]) hx hb dX5_mixed_8 hl (by decide) rfl (fun ls hl => ?_)
  refine lv_aload_n hx hb dX5_mixed_10 rfl (lv_at hl 1 rfl) ?_
  refine lv_iload_n hx hb dX5_mixed_11 rfl (lv_at hl 4 rfl) ?_
  obtain ⟨r3, hcr3, hsp⟩ := clE hsp
  refine call_i (w1 := []) (ws' := [(a0, .inr (5, [.ref a1, w0_1, w0_2, w0_3, w0_4, w0_5, .ref a7, w0_7, w0_8, w0_9, w0_10, w0_11, w0_12])), (a1, .inl (cI, 99, .inl f1)), (a7, .inl (cI, 3, .inl f7))]) (va_runS (As := [.int u3]) (rest := [.ref a0]) ⟨hx, hb, hml, hown, hts⟩ (k_X5_p l D cI cZ cC cS H.size u3 r3 hcr3) (va_cwS 1 hts gX5_mixed_X5_p rfl rfl rfl nd_X5_p.2 ⟨Nat.le_of_ble_eq_true rfl, Nat.le_of_ble_eq_true rfl⟩) (PB.preS hKU hP hD [] rfl rfl) rfl rfl hl.1 rfl (lv_room (Nat.le_of_ble_eq_true rfl)) dX5_mixed_12 ⟨Nat.zero_le _, Nat.zero_le _⟩) hS hP hD hA [] rfl rfl (by first | (simp only [wset, List.set_cons_zero, List.set_cons_succ]; done) | rfl) rfl (fun H locs hP hD hS => ?_)
  obtain ⟨r4, hcr4, hsp⟩ := clE hsp
  refine call_i (w1 := [(a0, .inr (5, [.ref a1, w0_1, w0_2, w0_3, w0_4, w0_5, .ref a7, w0_7, w0_8, w0_9, w0_10, w0_11, w0_12])), (a1, .inl (cI, 99, .inl f1))]) (ws' := [(a0, .inr (5, [.ref a1, w0_1, w0_2, w0_3, w0_4, w0_5, .ref a7, w0_7, w0_8, w0_9, w0_10, w0_11, w0_12])), (a1, .inl (cI, 99, .inl f1)), (a7, .inl (cI, 3, .inl f7))]) (va_runV (As := [.int r3]) (rest := []) ⟨hx, hb, hml, hown, hts⟩ (k_X5_drops l D cI cZ cC cS H.size a0 a1 (w0_1) (w0_2) (w0_3) (w0_4) (w0_5) (.ref a7) (w0_7) (w0_8) (w0_9) (w0_10) (w0_11) (w0_12) f1 r3 r4 hcr4) (cwV 1 hts gX5_mixed_X5_drops rfl rfl rfl nd_X5_drops ⟨Nat.le_of_ble_eq_true rfl, Nat.le_of_ble_eq_true rfl⟩) (PB.preV (ci := 5) (q0 := 0) hKU hP hD [0, 1] rfl rfl rfl rfl) rfl rfl hl.1 rfl (lv_room (Nat.le_of_ble_eq_true rfl)) dX5_mixed_15 ⟨Nat.zero_le _, Nat.zero_le _⟩) hS hP hD hA [0, 1] rfl rfl (by first | (simp only [wset, List.set_cons_zero, List.set_cons_succ]; done) | rfl) rfl (fun H locs hP hD hS => ?_)
  refine lv_istore (lv' := [(7, .int r4), (6, .int r2), (0, .ref a0), (1, .int u1), (2, .int u2), (3, .int u3), (4, .int u4), (5, .int u5)]) hx hb dX5_mixed_18 hl (by decide) rfl (fun ls hl => ?_)
  refine lv_iconst (v := 0) hx hb dX5_mixed_20 (by decide) ?_
  refine lv_istore (lv' := [(8, .int 0), (7, .int r4), (6, .int r2), (0, .ref a0), (1, .int u1), (2, .int u2), (3, .int u3), (4, .int u4), (5, .int u5)]) hx hb dX5_mixed_21 hl (by decide) rfl (fun ls hl => ?_)
  refine ex_rule (D := D) (K := s_X5_mixed_X1 f1 u1) (P := fun (t1 : (Nat → Int32)) => [(a0, .inr (5, [.ref a1, w0_1, w0_2, w0_3, w0_4, w0_5, .ref a7, w0_7, w0_8, w0_9, w0_10, w0_11, w0_12])), (a1, .inl (cI, 99, .inl f1)), (a7, .inl (cI, 3, .inl t1))]) (L := fun (t1 : (Nat → Int32)) => [(0, .ref a0), (1, .int u1)]) (nL := 10) (pcx := 98) (res := res) (A := A) (H0 := s.heap) ?_ (fun hx1 => ?_)
  · intro t1 H locs hsp hP hD hS ls hl
    obtain ⟨y7, rfl⟩ : ∃ z, z = t1 := ⟨_, rfl⟩
    unfold s_X5_mixed_X1 at hsp; try dsimp only at hsp
    have hP : va_P D vwCl [(a0, .inr (5, [.ref a1, w0_1, w0_2, w0_3, w0_4, w0_5, .ref a7, w0_7, w0_8, w0_9, w0_10, w0_11, w0_12])), (a1, .inl (cI, 99, .inl f1)), (a7, .inl (cI, 3, .inl y7))] H := hP
    have hD : va_D A [(a0, .inr (5, [.ref a1, w0_1, w0_2, w0_3, w0_4, w0_5, .ref a7, w0_7, w0_8, w0_9, w0_10, w0_11, w0_12])), (a1, .inl (cI, 99, .inl f1)), (a7, .inl (cI, 3, .inl y7))] := hD
    have hl : lv_has ls 10 [(0, .ref a0), (1, .int u1)] := hl
    refine lv_aload_n hx hb dX5_mixed_98 rfl (lv_at hl 0 rfl) ?_
    refine lv_iload_n hx hb dX5_mixed_99 rfl (lv_at hl 1 rfl) ?_
    obtain ⟨r8, hcr8, hsp⟩ := clE hsp
    refine call_i (w1 := [(a0, .inr (5, [.ref a1, w0_1, w0_2, w0_3, w0_4, w0_5, .ref a7, w0_7, w0_8, w0_9, w0_10, w0_11, w0_12])), (a1, .inl (cI, 99, .inl f1)), (a7, .inl (cI, 3, .inl y7))]) (ws' := [(a0, .inr (5, [.ref a1, w0_1, w0_2, w0_3, w0_4, w0_5, .ref a7, w0_7, w0_8, w0_9, w0_10, w0_11, w0_12])), (a1, .inl (cI, 99, .inl f1)), (a7, .inl (cI, 3, .inl y7))]) (va_runV (As := [.int u1]) (rest := []) ⟨hx, hb, hml, hown, hts⟩ (k_X5_distance l D cI cZ cC cS H.size a0 a1 a7 (w0_1) (w0_2) (w0_3) (w0_4) (w0_5) (w0_7) (w0_8) (w0_9) (w0_10) (w0_11) (w0_12) f1 y7 u1 r8 hcr8) (cwV 1 hts gX5_mixed_X5_distance rfl rfl rfl nd_X5_distance ⟨Nat.le_of_ble_eq_true rfl, Nat.le_of_ble_eq_true rfl⟩) (PB.preV (ci := 5) (q0 := 0) hKU hP hD [0, 1, 2] rfl rfl rfl rfl) rfl rfl hl.1 rfl (lv_room (Nat.le_of_ble_eq_true rfl)) dX5_mixed_100 ⟨Nat.zero_le _, Nat.zero_le _⟩) hS hP hD hA [0, 1, 2] rfl rfl (by first | (simp only [wset, List.set_cons_zero, List.set_cons_succ]; done) | rfl) rfl (fun H locs hP hD hS => ?_)
    have hres := Option.some.inj hsp
    subst hres
    exact W.iret (v := r8) hx hb hr (fun t ht hW => ⟨⟨r8, (), rfl, rfl, P_at ht hP⟩, hS.F ht⟩) hS.2.2 dX5_mixed_103
  have hl := lv_sub hl (l' := [(0, .ref a0), (1, .int u1), (2, .int u2), (3, .int u3), (4, .int u4), (5, .int u5), (6, .int r2), (7, .int r4), (8, .int 0)]) [3, 4, 5, 6, 7, 8, 2, 1, 0] rfl
  refine lp_rule (D := D) (F := s_X5_mixed_L1 u2 f1 u3 u4 r4 u5 r2 (s_X5_mixed_X1 f1 u1)) (P := fun (tv : Int32 × (Nat → Int32)) => [(a0, .inr (5, [.ref a1, w0_1, w0_2, w0_3, w0_4, w0_5, .ref a7, w0_7, w0_8, w0_9, w0_10, w0_11, w0_12])), (a1, .inl (cI, 99, .inl f1)), (a7, .inl (cI, 3, .inl tv.2))]) (L := fun (tv : Int32 × (Nat → Int32)) => [(0, .ref a0), (1, .int u1), (2, .int u2), (3, .int u3), (4, .int u4), (5, .int u5), (6, .int r2), (7, .int r4), (8, .int tv.1)]) (nL := 10) (res := res) (A := A) (H0 := s.heap) (fun _ => rfl) ?_ 1000 (0, f7) _ _ hsp hP hD hS _ hl
  · intro n1 ih1 tv H locs hsp hP hD hS ls hl
    obtain ⟨x5, y6⟩ := tv
    have hsp : s_X5_mixed_B1  u2 f1 u3 u4 r4 u5 r2 (s_X5_mixed_X1 f1 u1) (s_X5_mixed_L1 u2 f1 u3 u4 r4 u5 r2 (s_X5_mixed_X1 f1 u1) n1) x5 y6 = some res := hsp
    unfold s_X5_mixed_B1 at hsp
    have hP : va_P D vwCl [(a0, .inr (5, [.ref a1, w0_1, w0_2, w0_3, w0_4, w0_5, .ref a7, w0_7, w0_8, w0_9, w0_10, w0_11, w0_12])), (a1, .inl (cI, 99, .inl f1)), (a7, .inl (cI, 3, .inl y6))] H := hP
    have hD : va_D A [(a0, .inr (5, [.ref a1, w0_1, w0_2, w0_3, w0_4, w0_5, .ref a7, w0_7, w0_8, w0_9, w0_10, w0_11, w0_12])), (a1, .inl (cI, 99, .inl f1)), (a7, .inl (cI, 3, .inl y6))] := hD
    have hl : lv_has ls 10 [(0, .ref a0), (1, .int u1), (2, .int u2), (3, .int u3), (4, .int u4), (5, .int u5), (6, .int r2), (7, .int r4), (8, .int x5)] := hl
    refine lv_iload hx hb dX5_mixed_23 (lv_at hl 8 rfl) ?_
    refine lv_iconst (v := 3) hx hb dX5_mixed_25 (by decide) ?_
    refine lv_icmp_ge (tgt := 98) hx hb dX5_mixed_26 (by decide) (fun c9 => ?_) (fun c9 => ?_)
    · have hsp := itT hsp c9
      exact hx1 y6 _ _ hsp hP hD hS _ (lv_sub hl [0, 1] rfl)
    have hsp := itF hsp c9
    refine lv_aload_n hx hb dX5_mixed_29 rfl (lv_at hl 0 rfl) ?_
    refine va_get (D := D) (ci := 5) (v := .ref a1) (C := RX5) (T := TX5) (N := 13) hx hb hts hi_X5 hown hK hP 0 rfl rfl 0 (by decide) hf_7 (fun _ h9 => h9) rfl dX5_mixed_30 ?_
    refine lv_iload_n hx hb dX5_mixed_33 rfl (lv_at hl 2 rfl) ?_
    obtain ⟨r10, hcr10, hsp⟩ := clE hsp
    refine call_i (w1 := []) (ws' := [(a0, .inr (5, [.ref a1, w0_1, w0_2, w0_3, w0_4, w0_5, .ref a7, w0_7, w0_8, w0_9, w0_10, w0_11, w0_12])), (a1, .inl (cI, 99, .inl f1)), (a7, .inl (cI, 3, .inl y6))]) (va_runS (As := [.int u2]) (rest := [.ref a1]) ⟨hx, hb, hml, hown, hts⟩ (k_X5_p l D cI cZ cC cS H.size u2 r10 hcr10) (va_cwS 1 hts gX5_mixed_X5_p rfl rfl rfl nd_X5_p.2 ⟨Nat.le_of_ble_eq_true rfl, Nat.le_of_ble_eq_true rfl⟩) (PB.preS hKU hP hD [] rfl rfl) rfl rfl hl.1 rfl (lv_room (Nat.le_of_ble_eq_true rfl)) dX5_mixed_34 ⟨Nat.zero_le _, Nat.zero_le _⟩) hS hP hD hA [] rfl rfl (by first | (simp only [wset, List.set_cons_zero, List.set_cons_succ]; done) | rfl) rfl (fun H locs hP hD hS => ?_)
    refine lv_iload hx hb dX5_mixed_37 (lv_at hl 8 rfl) ?_
    refine lv_iadd hx hb dX5_mixed_39 ?_
    obtain ⟨x11, ex11, hnx11, hsp⟩ := ldE hsp
    refine r_iald hx hb hK hP 1 0 rfl rfl ex11 hnx11 dX5_mixed_40 ?_
    refine lv_iload hx hb dX5_mixed_41 (lv_at hl 4 rfl) ?_
    refine lv_imul hx hb dX5_mixed_43 ?_
    refine lv_iload hx hb dX5_mixed_44 (lv_at hl 7 rfl) ?_
    refine lv_imul hx hb dX5_mixed_46 ?_
    refine lv_aload_n hx hb dX5_mixed_47 rfl (lv_at hl 0 rfl) ?_
    refine va_get (D := D) (ci := 5) (v := .ref a1) (C := RX5) (T := TX5) (N := 13) hx hb hts hi_X5 hown hK hP 0 rfl rfl 0 (by decide) hf_7 (fun _ h9 => h9) rfl dX5_mixed_48 ?_
    refine lv_iload_n hx hb dX5_mixed_51 rfl (lv_at hl 3 rfl) ?_
    obtain ⟨r12, hcr12, hsp⟩ := clE hsp
    refine call_i (w1 := []) (ws' := [(a0, .inr (5, [.ref a1, w0_1, w0_2, w0_3, w0_4, w0_5, .ref a7, w0_7, w0_8, w0_9, w0_10, w0_11, w0_12])), (a1, .inl (cI, 99, .inl f1)), (a7, .inl (cI, 3, .inl y6))]) (va_runS (As := [.int u3]) (rest := [.ref a1, .int ((x11 * u4) * r4)]) ⟨hx, hb, hml, hown, hts⟩ (k_X5_p l D cI cZ cC cS H.size u3 r12 hcr12) (va_cwS 1 hts gX5_mixed_X5_p rfl rfl rfl nd_X5_p.2 ⟨Nat.le_of_ble_eq_true rfl, Nat.le_of_ble_eq_true rfl⟩) (PB.preS hKU hP hD [] rfl rfl) rfl rfl hl.1 rfl (lv_room (Nat.le_of_ble_eq_true rfl)) dX5_mixed_52 ⟨Nat.zero_le _, Nat.zero_le _⟩) hS hP hD hA [] rfl rfl (by first | (simp only [wset, List.set_cons_zero, List.set_cons_succ]; done) | rfl) rfl (fun H locs hP hD hS => ?_)
    refine lv_iload hx hb dX5_mixed_55 (lv_at hl 8 rfl) ?_
    refine lv_iadd hx hb dX5_mixed_57 ?_
    obtain ⟨x13, ex13, hnx13, hsp⟩ := ldE hsp
    refine r_iald hx hb hK hP 1 0 rfl rfl ex13 hnx13 dX5_mixed_58 ?_
    refine lv_iload hx hb dX5_mixed_59 (lv_at hl 5 rfl) ?_
    refine lv_imul hx hb dX5_mixed_61 ?_
    refine lv_iload hx hb dX5_mixed_62 (lv_at hl 6 rfl) ?_
    refine lv_imul hx hb dX5_mixed_64 ?_
    refine lv_iadd hx hb dX5_mixed_65 ?_
    obtain ⟨x14, ex14, hsp⟩ := nmE hsp
    refine r_top ex14 ?_
    refine lv_istore (lv' := [(9, .int x14), (0, .ref a0), (1, .int u1), (2, .int u2), (3, .int u3), (4, .int u4), (5, .int u5), (6, .int r2), (7, .int r4), (8, .int x5)]) hx hb dX5_mixed_66 hl (by decide) rfl (fun ls hl => ?_)
    refine lv_aload_n hx hb dX5_mixed_68 rfl (lv_at hl 1 rfl) ?_
    refine va_get (D := D) (ci := 5) (v := .ref a7) (C := RX5) (T := TX5) (N := 13) hx hb hts hi_X5 hown hK hP 0 rfl rfl 6 (by decide) hf_29 (fun _ h9 => h9) rfl dX5_mixed_69 ?_
    refine lv_iload hx hb dX5_mixed_72 (lv_at hl 9 rfl) ?_
    refine lv_bipush (v := 100) hx hb dX5_mixed_74 (by decide) ?_
    refine lv_iload hx hb dX5_mixed_76 (lv_at hl 0 rfl) ?_
    refine lv_imul hx hb dX5_mixed_78 ?_
    refine lv_iload hx hb dX5_mixed_79 (lv_at hl 7 rfl) ?_
    refine lv_iload hx hb dX5_mixed_81 (lv_at hl 8 rfl) ?_
    refine lv_imul hx hb dX5_mixed_83 ?_
    refine lv_iload hx hb dX5_mixed_84 (lv_at hl 5 rfl) ?_
    refine lv_iload hx hb dX5_mixed_86 (lv_at hl 6 rfl) ?_
    refine lv_iadd hx hb dX5_mixed_88 ?_
    refine lv_imul hx hb dX5_mixed_89 ?_
    obtain ⟨x15, ex15, hnx15, hsp⟩ := dvE hsp
    refine lv_idiv hx hb dX5_mixed_90 hnx15 ?_
    refine r_top ex15 ?_
    obtain ⟨y16, ey16, hny16, hsp⟩ := stoE hsp
    refine r_iast (ws' := [(a0, .inr (5, [.ref a1, w0_1, w0_2, w0_3, w0_4, w0_5, .ref a7, w0_7, w0_8, w0_9, w0_10, w0_11, w0_12])), (a1, .inl (cI, 99, .inl f1)), (a7, .inl (cI, 3, .inl y16))]) hx hb hK hP hD hS 2 0 rfl rfl ey16 hny16 rfl dX5_mixed_91 (fun H locs hP hD hS => ?_)
    obtain ⟨x17, ex17, hsp⟩ := nmE hsp
    refine lv_iinc (k := 9) (v := x17) (lv' := [(8, .int x17), (9, .int x14), (0, .ref a0), (1, .int u1), (2, .int u2), (3, .int u3), (4, .int u4), (5, .int u5), (6, .int r2), (7, .int r4)]) hx hb dX5_mixed_92 hl rfl (by rw [ex17]; rfl) (by decide) rfl (fun ls hl => ?_)
    refine lv_goto (tgt := 23) hx hb dX5_mixed_95 (by decide) ?_
    exact ih1 (x17, y16) _ _ hsp hP hD hS _ (lv_sub hl [2, 3, 4, 5, 6, 7, 8, 9, 0] rfl)

theorem nd_X5_bestMixture : yX5_bestMixture.cls = RX5 ∧ yX5_bestMixture.cls ≠ "java/lang/invoke/MethodHandle" ∧ yX5_bestMixture.cls ≠ "java/lang/invoke/VarHandle" ∧ (parseMethodDescriptor yX5_bestMixture.desc).map (fun d => d.parameters.length) = some 2 := by decide +kernel
set_option maxHeartbeats 8000000 in
set_option maxRecDepth 100000 in
theorem k_X5_bestMixture (l : Launch) (D : va_G) (cI cZ cC cS : ClassId) (sz : Nat) (a0 a1 a7 : Nat) (w0_1 : Value) (w0_2 : Value) (w0_3 : Value) (w0_4 : Value) (w0_5 : Value) (w0_7 : Value) (w0_8 : Value) (w0_9 : Value) (w0_10 : Value) (w0_11 : Value) (w0_12 : Value) (f1 : Nat → Int32) (f7 : Nat → Int32) (u1 : Int32) (u2 : Int32) (res : Int32 × (Nat → Int32)) (hsp : s_X5_bestMixture f1 f7 u1 u2 = some res) : Met l yX5_bestMixture wsX5_bestMixture ({ frames := 3, cells := 0, slots := 0, locals := 73 }) (va_Pc [.ref a0, .int u1, .int u2] (PB D cI cZ cC cS [(a0, .inr (5, [.ref a1, w0_1, w0_2, w0_3, w0_4, w0_5, .ref a7, w0_7, w0_8, w0_9, w0_10, w0_11, w0_12])), (a1, .inl (cI, 99, .inl f1)), (a7, .inl (cI, 3, .inl f7))] sz)) (va_Qi (fun r (_ : Unit) => r = res.1) (fun _ t => va_P D vwCl [(a0, .inr (5, [.ref a1, w0_1, w0_2, w0_3, w0_4, w0_5, .ref a7, w0_7, w0_8, w0_9, w0_10, w0_11, w0_12])), (a1, .inl (cI, 99, .inl f1)), (a7, .inl (cI, 3, .inl res.2))] t.heap) (va_A [(a0, .inr (5, [.ref a1, w0_1, w0_2, w0_3, w0_4, w0_5, .ref a7, w0_7, w0_8, w0_9, w0_10, w0_11, w0_12])), (a1, .inl (cI, 99, .inl f1)), (a7, .inl (cI, 3, .inl f7))] sz)) 0 0 (va_A [(a0, .inr (5, [.ref a1, w0_1, w0_2, w0_3, w0_4, w0_5, .ref a7, w0_7, w0_8, w0_9, w0_10, w0_11, w0_12])), (a1, .inl (cI, 99, .inl f1)), (a7, .inl (cI, 3, .inl f7))] sz) := by
  refine Met.ofW (cc := cX5_bestMixture) (maxL := 9) (ret := (some .int)) (by decide) rfl ?_
  intro p e s m args below meth c s₁ B hml hv
  obtain ⟨rfl, hsz, hP, hD0, hKU⟩ := hv
  have hx := B.exec
  have hb := B.bytes
  have hr := B.returns
  have hts := atoms_spec (ws := wsX5_bestMixture) B.pre
  have hown : s.vm.findClass RX5 = some m.cls := findClass_of_methodNamed B.named
  have hlocks := B.notSynchronized
  have hK := hKU.1
  subst hsz
  have hD := hD0.self (sz := s.heap.size)
  generalize hAe : va_A [(a0, .inr (5, [.ref a1, w0_1, w0_2, w0_3, w0_4, w0_5, .ref a7, w0_7, w0_8, w0_9, w0_10, w0_11, w0_12])), (a1, .inl (cI, 99, .inl f1)), (a7, .inl (cI, 3, .inl f7))] s.heap.size = A at hD ⊢
  have hA : ∀ q : Nat, s.heap.size ≤ q → A q := fun q h => by rw [← hAe]; exact Or.inr h
  have hP : va_P D vwCl [(a0, .inr (5, [.ref a1, w0_1, w0_2, w0_3, w0_4, w0_5, .ref a7, w0_7, w0_8, w0_9, w0_10, w0_11, w0_12])), (a1, .inl (cI, 99, .inl f1)), (a7, .inl (cI, 3, .inl f7))] s.heap := hP
  generalize hHe : s.heap = H at hP ⊢
  have hS : va_S A s.heap H [] := by rw [hHe]; exact va_S.rf
  have hl := lv_entry ([.ref a0, .int u1, .int u2]) (n := 9) (Nat.le_of_ble_eq_true rfl)
  rw [lg_entry_eq]
  generalize (lg_sl ([.ref a0, .int u1, .int u2]) ++ List.replicate (9 - (lg_sl ([.ref a0, .int u1, .int u2])).length) Slot.unset).toArray = ls at hl ⊢
  have hl : lv_has ls 9 [(0, .ref a0), (1, .int u1), (2, .int u2)] := hl
  unfold s_X5_bestMixture at hsp
  refine lv_iload_n hx hb dX5_bestMixture_0 rfl (lv_at hl 1 rfl) ?_
  obtain ⟨r1, hcr1, hsp⟩ := clE hsp
  refine call_z (w1 := []) (ws' := [(a0, .inr (5, [.ref a1, w0_1, w0_2, w0_3, w0_4, w0_5, .ref a7, w0_7, w0_8, w0_9, w0_10, w0_11, w0_12])), (a1, .inl (cI, 99, .inl f1)), (a7, .inl (cI, 3, .inl f7))]) (va_runS (As := [.int u1]) (rest := []) ⟨hx, hb, hml, hown, hts⟩ (k_X5_isPanel l D cI cZ cC cS H.size u1 r1 hcr1) (va_cwS 1 hts gX5_bestMixture_X5_isPanel rfl rfl rfl nd_X5_isPanel.2 ⟨Nat.le_of_ble_eq_true rfl, Nat.le_of_ble_eq_true rfl⟩) (PB.preS hKU hP hD [] rfl rfl) rfl rfl hl.1 rfl (lv_room (Nat.le_of_ble_eq_true rfl)) dX5_bestMixture_1 ⟨Nat.zero_le _, Nat.zero_le _⟩) hS hP hD hA [] rfl rfl (by first | (simp only [wset, List.set_cons_zero, List.set_cons_succ]; done) | rfl) rfl (fun H locs hP hD hS hzr1 => ?_)
  refine lv_if_ne (tgt := 9) hx hb dX5_bestMixture_4 (by decide) (fun c2 => ?_) (fun c2 => ?_)
  · have hsp := itF hsp c2
    refine lv_iload_n hx hb dX5_bestMixture_9 rfl (lv_at hl 2 rfl) ?_
    refine lv_iconst (v := 0) hx hb dX5_bestMixture_10 (by decide) ?_
    refine lv_iconst (v := 4) hx hb dX5_bestMixture_11 (by decide) ?_
    obtain ⟨r3, hcr3, hsp⟩ := clE hsp
    refine call_z (w1 := []) (ws' := [(a0, .inr (5, [.ref a1, w0_1, w0_2, w0_3, w0_4, w0_5, .ref a7, w0_7, w0_8, w0_9, w0_10, w0_11, w0_12])), (a1, .inl (cI, 99, .inl f1)), (a7, .inl (cI, 3, .inl f7))]) (va_runS (As := [.int u2, .int 0, .int 4]) (rest := []) ⟨hx, hb, hml, hown, hts⟩ (k_X5_in l D cI cZ cC cS H.size u2 0 4 r3 hcr3) (va_cwS 3 hts gX5_bestMixture_X5_in rfl rfl rfl nd_X5_in.2 ⟨Nat.le_of_ble_eq_true rfl, Nat.le_of_ble_eq_true rfl⟩) (PB.preS hKU hP hD [] rfl rfl) rfl rfl hl.1 rfl (lv_room (Nat.le_of_ble_eq_true rfl)) dX5_bestMixture_12 ⟨Nat.zero_le _, Nat.zero_le _⟩) hS hP hD hA [] rfl rfl (by first | (simp only [wset, List.set_cons_zero, List.set_cons_succ]; done) | rfl) rfl (fun H locs hP hD hS hzr3 => ?_)
    refine lv_if_ne (tgt := 21) hx hb dX5_bestMixture_15 (by decide) (fun c4 => ?_) (fun c4 => ?_)
    · have hsp := itF hsp c4
      refine lv_bipush (v := (-6)) hx hb dX5_bestMixture_21 (by decide) ?_
      refine lv_istore_n (lv' := [(3, .int (-6)), (0, .ref a0), (1, .int u1), (2, .int u2)]) hx hb dX5_bestMixture_23 rfl hl (by decide) rfl (fun ls hl => ?_)
      refine lv_sipush (v := 1000) hx hb dX5_bestMixture_24 (by decide) ?_
      refine lv_istore (lv' := [(4, .int 1000), (3, .int (-6)), (0, .ref a0), (1, .int u1), (2, .int u2)]) hx hb dX5_bestMixture_27 hl (by decide) rfl (fun ls hl => ?_)
      refine lv_iconst (v := 0) hx hb dX5_bestMixture_29 (by decide) ?_
      refine lv_istore (lv' := [(5, .int 0), (4, .int 1000), (3, .int (-6)), (0, .ref a0), (1, .int u1), (2, .int u2)]) hx hb dX5_bestMixture_30 hl (by decide) rfl (fun ls hl => ?_)
      refine ex_rule (D := D) (K := s_X5_bestMixture_X1 u2) (P := fun (t1 : Int32 × Int32 × (Nat → Int32)) => [(a0, .inr (5, [.ref a1, w0_1, w0_2, w0_3, w0_4, w0_5, .ref a7, w0_7, w0_8, w0_9, w0_10, w0_11, w0_12])), (a1, .inl (cI, 99, .inl f1)), (a7, .inl (cI, 3, .inl t1.2.2))]) (L := fun (t1 : Int32 × Int32 × (Nat → Int32)) => [(2, .int u2), (3, .int t1.1), (4, .int t1.2.1)]) (nL := 9) (pcx := 183) (res := res) (A := A) (H0 := s.heap) ?_ (fun hx1 => ?_)
      · intro t1 H locs hsp hP hD hS ls hl
        obtain ⟨x9, x10, y11⟩ := t1
        unfold s_X5_bestMixture_X1 at hsp; try dsimp only at hsp
        have hP : va_P D vwCl [(a0, .inr (5, [.ref a1, w0_1, w0_2, w0_3, w0_4, w0_5, .ref a7, w0_7, w0_8, w0_9, w0_10, w0_11, w0_12])), (a1, .inl (cI, 99, .inl f1)), (a7, .inl (cI, 3, .inl y11))] H := hP
        have hD : va_D A [(a0, .inr (5, [.ref a1, w0_1, w0_2, w0_3, w0_4, w0_5, .ref a7, w0_7, w0_8, w0_9, w0_10, w0_11, w0_12])), (a1, .inl (cI, 99, .inl f1)), (a7, .inl (cI, 3, .inl y11))] := hD
        have hl : lv_has ls 9 [(2, .int u2), (3, .int x9), (4, .int x10)] := hl
        refine lv_iload_n hx hb dX5_bestMixture_183 rfl (lv_at hl 1 rfl) ?_
        refine lv_bipush (v := (-6)) hx hb dX5_bestMixture_184 (by decide) ?_
        refine lv_icmp_ne (tgt := 192) hx hb dX5_bestMixture_186 (by decide) (fun c12 => ?_) (fun c12 => ?_)
        · have hsp := itF hsp c12
          refine lv_iload_n hx hb dX5_bestMixture_192 rfl (lv_at hl 1 rfl) ?_
          refine lv_bipush (v := 81) hx hb dX5_bestMixture_193 (by decide) ?_
          obtain ⟨x13, ex13, hnx13, hsp⟩ := dvE hsp
          refine lv_idiv hx hb dX5_bestMixture_195 hnx13 ?_
          refine r_top ex13 ?_
          refine lv_istore (lv' := [(5, .int x13), (2, .int u2), (3, .int x9), (4, .int x10)]) hx hb dX5_bestMixture_196 hl (by decide) rfl (fun ls hl => ?_)
          refine lv_iload_n hx hb dX5_bestMixture_198 rfl (lv_at hl 2 rfl) ?_
          refine lv_bipush (v := 81) hx hb dX5_bestMixture_199 (by decide) ?_
          obtain ⟨x14, ex14, hnx14, hsp⟩ := rmdE hsp
          refine lv_irem hx hb dX5_bestMixture_201 hnx14 ?_
          refine r_top ex14 ?_
          refine lv_istore (lv' := [(6, .int x14), (5, .int x13), (2, .int u2), (3, .int x9), (4, .int x10)]) hx hb dX5_bestMixture_202 hl (by decide) rfl (fun ls hl => ?_)
          refine lv_iload_n hx hb dX5_bestMixture_204 rfl (lv_at hl 2 rfl) ?_
          refine lv_if_ne (tgt := 216) hx hb dX5_bestMixture_205 (by decide) (fun c15 => ?_) (fun c15 => ?_)
          · have hsp := itF hsp c15
            refine lv_iload_n hx hb dX5_bestMixture_216 rfl (lv_at hl 2 rfl) ?_
            refine lv_iconst (v := 1) hx hb dX5_bestMixture_217 (by decide) ?_
            refine lv_icmp_ne (tgt := 229) hx hb dX5_bestMixture_218 (by decide) (fun c16 => ?_) (fun c16 => ?_)
            · have hsp := itF hsp c16
              refine lv_iload_n hx hb dX5_bestMixture_229 rfl (lv_at hl 2 rfl) ?_
              refine lv_iconst (v := 2) hx hb dX5_bestMixture_230 (by decide) ?_
              refine lv_icmp_ne (tgt := 244) hx hb dX5_bestMixture_231 (by decide) (fun c17 => ?_) (fun c17 => ?_)
              · have hsp := itF hsp c17
                refine lv_iload_n hx hb dX5_bestMixture_244 rfl (lv_at hl 2 rfl) ?_
                refine lv_iconst (v := 3) hx hb dX5_bestMixture_245 (by decide) ?_
                refine lv_icmp_ne (tgt := 259) hx hb dX5_bestMixture_246 (by decide) (fun c18 => ?_) (fun c18 => ?_)
                · have hsp := itF hsp c18
                  refine lv_iload hx hb dX5_bestMixture_259 (lv_at hl 4 rfl) ?_
                  have hres := Option.some.inj hsp
                  subst hres
                  exact W.iret (v := x10) hx hb hr (fun t ht hW => ⟨⟨x10, (), rfl, rfl, P_at ht hP⟩, hS.F ht⟩) hS.2.2 dX5_bestMixture_261
                have hsp := itT hsp c18
                refine lv_iconst (v := 1) hx hb dX5_bestMixture_249 (by decide) ?_
                refine lv_iload hx hb dX5_bestMixture_250 (lv_at hl 0 rfl) ?_
                refine lv_bipush (v := 9) hx hb dX5_bestMixture_252 (by decide) ?_
                obtain ⟨x19, ex19, hnx19, hsp⟩ := rmdE hsp
                refine lv_irem hx hb dX5_bestMixture_254 hnx19 ?_
                refine r_top ex19 ?_
                refine lv_iadd hx hb dX5_bestMixture_255 ?_
                refine lv_goto (tgt := 261) hx hb dX5_bestMixture_256 (by decide) ?_
                have hres := Option.some.inj hsp
                subst hres
                exact W.iret (v := 1 + x19) hx hb hr (fun t ht hW => ⟨⟨1 + x19, (), rfl, rfl, P_at ht hP⟩, hS.F ht⟩) hS.2.2 dX5_bestMixture_261
              have hsp := itT hsp c17
              refine lv_iconst (v := 1) hx hb dX5_bestMixture_234 (by decide) ?_
              refine lv_iload hx hb dX5_bestMixture_235 (lv_at hl 0 rfl) ?_
              refine lv_bipush (v := 9) hx hb dX5_bestMixture_237 (by decide) ?_
              obtain ⟨x20, ex20, hnx20, hsp⟩ := dvE hsp
              refine lv_idiv hx hb dX5_bestMixture_239 hnx20 ?_
              refine r_top ex20 ?_
              refine lv_iadd hx hb dX5_bestMixture_240 ?_
              refine lv_goto (tgt := 261) hx hb dX5_bestMixture_241 (by decide) ?_
              have hres := Option.some.inj hsp
              subst hres
              exact W.iret (v := 1 + x20) hx hb hr (fun t ht hW => ⟨⟨1 + x20, (), rfl, rfl, P_at ht hP⟩, hS.F ht⟩) hS.2.2 dX5_bestMixture_261
            have hsp := itT hsp c16
            refine lv_iload hx hb dX5_bestMixture_221 (lv_at hl 1 rfl) ?_
            refine lv_bipush (v := 8) hx hb dX5_bestMixture_223 (by decide) ?_
            obtain ⟨x21, ex21, hnx21, hsp⟩ := rmdE hsp
            refine lv_irem hx hb dX5_bestMixture_225 hnx21 ?_
            refine r_top ex21 ?_
            refine lv_goto (tgt := 261) hx hb dX5_bestMixture_226 (by decide) ?_
            have hres := Option.some.inj hsp
            subst hres
            exact W.iret (v := x21) hx hb hr (fun t ht hW => ⟨⟨x21, (), rfl, rfl, P_at ht hP⟩, hS.F ht⟩) hS.2.2 dX5_bestMixture_261
          have hsp := itT hsp c15
          refine lv_iload hx hb dX5_bestMixture_208 (lv_at hl 1 rfl) ?_
          refine lv_bipush (v := 8) hx hb dX5_bestMixture_210 (by decide) ?_
          obtain ⟨x22, ex22, hnx22, hsp⟩ := dvE hsp
          refine lv_idiv hx hb dX5_bestMixture_212 hnx22 ?_
          refine r_top ex22 ?_
          refine lv_goto (tgt := 261) hx hb dX5_bestMixture_213 (by decide) ?_
          have hres := Option.some.inj hsp
          subst hres
          exact W.iret (v := x22) hx hb hr (fun t ht hW => ⟨⟨x22, (), rfl, rfl, P_at ht hP⟩, hS.F ht⟩) hS.2.2 dX5_bestMixture_261
        have hsp := itT hsp c12
        refine lv_bipush (v := (-6)) hx hb dX5_bestMixture_189 (by decide) ?_
        have hres := Option.some.inj hsp
        subst hres
        exact W.iret (v := (-6)) hx hb hr (fun t ht hW => ⟨⟨(-6), (), rfl, rfl, P_at ht hP⟩, hS.F ht⟩) hS.2.2 dX5_bestMixture_191
      have hl := lv_sub hl (l' := [(0, .ref a0), (1, .int u1), (2, .int u2), (3, .int (-6)), (4, .int 1000), (5, .int 0)]) [3, 4, 5, 2, 1, 0] rfl
      refine lp_rule (D := D) (F := s_X5_bestMixture_L1 f1 u1 (s_X5_bestMixture_X1 u2)) (P := fun (tv : Int32 × Int32 × Int32 × (Nat → Int32)) => [(a0, .inr (5, [.ref a1, w0_1, w0_2, w0_3, w0_4, w0_5, .ref a7, w0_7, w0_8, w0_9, w0_10, w0_11, w0_12])), (a1, .inl (cI, 99, .inl f1)), (a7, .inl (cI, 3, .inl tv.2.2.2))]) (L := fun (tv : Int32 × Int32 × Int32 × (Nat → Int32)) => [(0, .ref a0), (1, .int u1), (2, .int u2), (3, .int tv.1), (4, .int tv.2.1), (5, .int tv.2.2.1)]) (nL := 9) (res := res) (A := A) (H0 := s.heap) (fun _ => rfl) ?_ 1000 ((-6), 1000, 0, f7) _ _ hsp hP hD hS _ hl
      · intro n1 ih1 tv H locs hsp hP hD hS ls hl
        obtain ⟨x5, x6, x7, y8⟩ := tv
        have hsp : s_X5_bestMixture_B1  f1 u1 (s_X5_bestMixture_X1 u2) (s_X5_bestMixture_L1 f1 u1 (s_X5_bestMixture_X1 u2) n1) x5 x6 x7 y8 = some res := hsp
        unfold s_X5_bestMixture_B1 at hsp
        have hP : va_P D vwCl [(a0, .inr (5, [.ref a1, w0_1, w0_2, w0_3, w0_4, w0_5, .ref a7, w0_7, w0_8, w0_9, w0_10, w0_11, w0_12])), (a1, .inl (cI, 99, .inl f1)), (a7, .inl (cI, 3, .inl y8))] H := hP
        have hD : va_D A [(a0, .inr (5, [.ref a1, w0_1, w0_2, w0_3, w0_4, w0_5, .ref a7, w0_7, w0_8, w0_9, w0_10, w0_11, w0_12])), (a1, .inl (cI, 99, .inl f1)), (a7, .inl (cI, 3, .inl y8))] := hD
        have hl : lv_has ls 9 [(0, .ref a0), (1, .int u1), (2, .int u2), (3, .int x5), (4, .int x6), (5, .int x7)] := hl
        refine lv_iload hx hb dX5_bestMixture_32 (lv_at hl 5 rfl) ?_
        refine lv_bipush (v := 64) hx hb dX5_bestMixture_34 (by decide) ?_
        refine lv_icmp_ge (tgt := 183) hx hb dX5_bestMixture_36 (by decide) (fun c23 => ?_) (fun c23 => ?_)
        · have hsp := itT hsp c23
          exact hx1 (x5, x6, y8) _ _ hsp hP hD hS _ (lv_sub hl [2, 3, 4] rfl)
        have hsp := itF hsp c23
        refine lv_iload hx hb dX5_bestMixture_39 (lv_at hl 5 rfl) ?_
        refine lv_bipush (v := 8) hx hb dX5_bestMixture_41 (by decide) ?_
        obtain ⟨x24, ex24, hnx24, hsp⟩ := dvE hsp
        refine lv_idiv hx hb dX5_bestMixture_43 hnx24 ?_
        refine r_top ex24 ?_
        refine lv_iload hx hb dX5_bestMixture_44 (lv_at hl 5 rfl) ?_
        refine lv_bipush (v := 8) hx hb dX5_bestMixture_46 (by decide) ?_
        obtain ⟨x25, ex25, hnx25, hsp⟩ := rmdE hsp
        refine lv_irem hx hb dX5_bestMixture_48 hnx25 ?_
        refine r_top ex25 ?_
        refine lv_icmp_ge (tgt := 86) hx hb dX5_bestMixture_49 (by decide) (fun c26 => ?_) (fun c26 => ?_)
        · have hsp := itT hsp c26
          refine lv_iconst (v := 0) hx hb dX5_bestMixture_86 (by decide) ?_
          refine lv_istore (lv' := [(6, .int 0), (0, .ref a0), (1, .int u1), (2, .int u2), (3, .int x5), (4, .int x6), (5, .int x7)]) hx hb dX5_bestMixture_87 hl (by decide) rfl (fun ls hl => ?_)
          refine lv_iconst (v := 0) hx hb dX5_bestMixture_89 (by decide) ?_
          refine lv_istore (lv' := [(7, .int 0), (6, .int 0), (0, .ref a0), (1, .int u1), (2, .int u2), (3, .int x5), (4, .int x6), (5, .int x7)]) hx hb dX5_bestMixture_90 hl (by decide) rfl (fun ls hl => ?_)
          refine ex_rule (D := D) (K := s_X5_bestMixture_X2 (s_X5_bestMixture_L1 f1 u1 (s_X5_bestMixture_X1 u2) n1) x7) (P := fun (t2 : Int32 × Int32 × (Nat → Int32)) => [(a0, .inr (5, [.ref a1, w0_1, w0_2, w0_3, w0_4, w0_5, .ref a7, w0_7, w0_8, w0_9, w0_10, w0_11, w0_12])), (a1, .inl (cI, 99, .inl f1)), (a7, .inl (cI, 3, .inl t2.2.2))]) (L := fun (t2 : Int32 × Int32 × (Nat → Int32)) => [(0, .ref a0), (1, .int u1), (2, .int u2), (3, .int t2.1), (4, .int t2.2.1), (5, .int x7)]) (nL := 9) (pcx := 177) (res := res) (A := A) (H0 := s.heap) ?_ (fun hx2 => ?_)
          · intro t2 H locs hsp hP hD hS ls hl
            obtain ⟨x31, x32, y33⟩ := t2
            unfold s_X5_bestMixture_X2 at hsp; try dsimp only at hsp
            have hP : va_P D vwCl [(a0, .inr (5, [.ref a1, w0_1, w0_2, w0_3, w0_4, w0_5, .ref a7, w0_7, w0_8, w0_9, w0_10, w0_11, w0_12])), (a1, .inl (cI, 99, .inl f1)), (a7, .inl (cI, 3, .inl y33))] H := hP
            have hD : va_D A [(a0, .inr (5, [.ref a1, w0_1, w0_2, w0_3, w0_4, w0_5, .ref a7, w0_7, w0_8, w0_9, w0_10, w0_11, w0_12])), (a1, .inl (cI, 99, .inl f1)), (a7, .inl (cI, 3, .inl y33))] := hD
            have hl : lv_has ls 9 [(0, .ref a0), (1, .int u1), (2, .int u2), (3, .int x31), (4, .int x32), (5, .int x7)] := hl
            obtain ⟨x34, ex34, hsp⟩ := nmE hsp
            refine lv_iinc (k := 5) (v := x34) (lv' := [(5, .int x34), (0, .ref a0), (1, .int u1), (2, .int u2), (3, .int x31), (4, .int x32)]) hx hb dX5_bestMixture_177 hl rfl (by rw [ex34]; rfl) (by decide) rfl (fun ls hl => ?_)
            refine lv_goto (tgt := 32) hx hb dX5_bestMixture_180 (by decide) ?_
            exact ih1 (x31, x32, x34, y33) _ _ hsp hP hD hS _ (lv_sub hl [1, 2, 3, 4, 5, 0] rfl)
          have hl := lv_sub hl (l' := [(0, .ref a0), (1, .int u1), (2, .int u2), (3, .int x5), (4, .int x6), (5, .int x7), (6, .int 0), (7, .int 0)]) [2, 3, 4, 5, 6, 7, 1, 0] rfl
          refine lp_rule (D := D) (F := s_X5_bestMixture_L2 (s_X5_bestMixture_X2 (s_X5_bestMixture_L1 f1 u1 (s_X5_bestMixture_X1 u2) n1) x7)) (P := fun (tv : Int32 × Int32 × Int32 × (Nat → Int32)) => [(a0, .inr (5, [.ref a1, w0_1, w0_2, w0_3, w0_4, w0_5, .ref a7, w0_7, w0_8, w0_9, w0_10, w0_11, w0_12])), (a1, .inl (cI, 99, .inl f1)), (a7, .inl (cI, 3, .inl tv.2.2.2))]) (L := fun (tv : Int32 × Int32 × Int32 × (Nat → Int32)) => [(0, .ref a0), (1, .int u1), (2, .int u2), (3, .int tv.1), (4, .int tv.2.1), (5, .int x7), (6, .int 0), (7, .int tv.2.2.1)]) (nL := 9) (res := res) (A := A) (H0 := s.heap) (fun _ => rfl) ?_ 1000 (x5, x6, 0, y8) _ _ hsp hP hD hS _ hl
          · intro n2 ih2 tv H locs hsp hP hD hS ls hl
            obtain ⟨x27, x28, x29, y30⟩ := tv
            have hsp : s_X5_bestMixture_B2   (s_X5_bestMixture_X2 (s_X5_bestMixture_L1 f1 u1 (s_X5_bestMixture_X1 u2) n1) x7) (s_X5_bestMixture_L2 (s_X5_bestMixture_X2 (s_X5_bestMixture_L1 f1 u1 (s_X5_bestMixture_X1 u2) n1) x7) n2) x27 x28 x29 y30 = some res := hsp
            unfold s_X5_bestMixture_B2 at hsp
            have hP : va_P D vwCl [(a0, .inr (5, [.ref a1, w0_1, w0_2, w0_3, w0_4, w0_5, .ref a7, w0_7, w0_8, w0_9, w0_10, w0_11, w0_12])), (a1, .inl (cI, 99, .inl f1)), (a7, .inl (cI, 3, .inl y30))] H := hP
            have hD : va_D A [(a0, .inr (5, [.ref a1, w0_1, w0_2, w0_3, w0_4, w0_5, .ref a7, w0_7, w0_8, w0_9, w0_10, w0_11, w0_12])), (a1, .inl (cI, 99, .inl f1)), (a7, .inl (cI, 3, .inl y30))] := hD
            have hl : lv_has ls 9 [(0, .ref a0), (1, .int u1), (2, .int u2), (3, .int x27), (4, .int x28), (5, .int x7), (6, .int 0), (7, .int x29)] := hl
            refine lv_iload hx hb dX5_bestMixture_92 (lv_at hl 7 rfl) ?_
            refine lv_bipush (v := 81) hx hb dX5_bestMixture_94 (by decide) ?_
            refine lv_icmp_ge (tgt := 177) hx hb dX5_bestMixture_96 (by decide) (fun c35 => ?_) (fun c35 => ?_)
            · have hsp := itT hsp c35
              exact hx2 (x27, x28, y30) _ _ hsp hP hD hS _ (lv_sub hl [0, 1, 2, 3, 4, 5] rfl)
            have hsp := itF hsp c35
            refine lv_iload hx hb dX5_bestMixture_99 (lv_at hl 6 rfl) ?_
            refine lv_if_eq (tgt := 177) hx hb dX5_bestMixture_101 (by decide) (fun _ => ?_) (fun hc => absurd hc (by decide))
            exact hx2 (x27, x28, y30) _ _ hsp hP hD hS _ (lv_sub hl [0, 1, 2, 3, 4, 5] rfl)
        have hsp := itF hsp c26
        refine lv_aload_n hx hb dX5_bestMixture_52 rfl (lv_at hl 0 rfl) ?_
        refine lv_iload hx hb dX5_bestMixture_53 (lv_at hl 5 rfl) ?_
        refine lv_bipush (v := 8) hx hb dX5_bestMixture_55 (by decide) ?_
        obtain ⟨x36, ex36, hnx36, hsp⟩ := dvE hsp
        refine lv_idiv hx hb dX5_bestMixture_57 hnx36 ?_
        refine r_top ex36 ?_
        obtain ⟨r37, hcr37, hsp⟩ := clE hsp
        refine call_i (w1 := []) (ws' := [(a0, .inr (5, [.ref a1, w0_1, w0_2, w0_3, w0_4, w0_5, .ref a7, w0_7, w0_8, w0_9, w0_10, w0_11, w0_12])), (a1, .inl (cI, 99, .inl f1)), (a7, .inl (cI, 3, .inl y8))]) (va_runS (As := [.int x36]) (rest := [.ref a0]) ⟨hx, hb, hml, hown, hts⟩ (k_X5_p l D cI cZ cC cS H.size x36 r37 hcr37) (va_cwS 1 hts gX5_bestMixture_X5_p rfl rfl rfl nd_X5_p.2 ⟨Nat.le_of_ble_eq_true rfl, Nat.le_of_ble_eq_true rfl⟩) (PB.preS hKU hP hD [] rfl rfl) rfl rfl hl.1 rfl (lv_room (Nat.le_of_ble_eq_true rfl)) dX5_bestMixture_58 ⟨Nat.zero_le _, Nat.zero_le _⟩) hS hP hD hA [] rfl rfl (by first | (simp only [wset, List.set_cons_zero, List.set_cons_succ]; done) | rfl) rfl (fun H locs hP hD hS => ?_)
        obtain ⟨r38, hcr38, hsp⟩ := clE hsp
        refine call_i (w1 := [(a0, .inr (5, [.ref a1, w0_1, w0_2, w0_3, w0_4, w0_5, .ref a7, w0_7, w0_8, w0_9, w0_10, w0_11, w0_12])), (a1, .inl (cI, 99, .inl f1))]) (ws' := [(a0, .inr (5, [.ref a1, w0_1, w0_2, w0_3, w0_4, w0_5, .ref a7, w0_7, w0_8, w0_9, w0_10, w0_11, w0_12])), (a1, .inl (cI, 99, .inl f1)), (a7, .inl (cI, 3, .inl y8))]) (va_runV (As := [.int r37]) (rest := []) ⟨hx, hb, hml, hown, hts⟩ (k_X5_drops l D cI cZ cC cS H.size a0 a1 (w0_1) (w0_2) (w0_3) (w0_4) (w0_5) (.ref a7) (w0_7) (w0_8) (w0_9) (w0_10) (w0_11) (w0_12) f1 r37 r38 hcr38) (cwV 1 hts gX5_bestMixture_X5_drops rfl rfl rfl nd_X5_drops ⟨Nat.le_of_ble_eq_true rfl, Nat.le_of_ble_eq_true rfl⟩) (PB.preV (ci := 5) (q0 := 0) hKU hP hD [0, 1] rfl rfl rfl rfl) rfl rfl hl.1 rfl (lv_room (Nat.le_of_ble_eq_true rfl)) dX5_bestMixture_61 ⟨Nat.zero_le _, Nat.zero_le _⟩) hS hP hD hA [0, 1] rfl rfl (by first | (simp only [wset, List.set_cons_zero, List.set_cons_succ]; done) | rfl) rfl (fun H locs hP hD hS => ?_)
        refine lv_if_le (tgt := 86) hx hb dX5_bestMixture_64 (by decide) (fun c39 => ?_) (fun c39 => ?_)
        · have hsp := itT hsp c39
          refine lv_iconst (v := 0) hx hb dX5_bestMixture_86 (by decide) ?_
          refine lv_istore (lv' := [(6, .int 0), (0, .ref a0), (1, .int u1), (2, .int u2), (3, .int x5), (4, .int x6), (5, .int x7)]) hx hb dX5_bestMixture_87 hl (by decide) rfl (fun ls hl => ?_)
          refine lv_iconst (v := 0) hx hb dX5_bestMixture_89 (by decide) ?_
          refine lv_istore (lv' := [(7, .int 0), (6, .int 0), (0, .ref a0), (1, .int u1), (2, .int u2), (3, .int x5), (4, .int x6), (5, .int x7)]) hx hb dX5_bestMixture_90 hl (by decide) rfl (fun ls hl => ?_)
          refine ex_rule (D := D) (K := s_X5_bestMixture_X3 (s_X5_bestMixture_L1 f1 u1 (s_X5_bestMixture_X1 u2) n1) x7) (P := fun (t3 : Int32 × Int32 × (Nat → Int32)) => [(a0, .inr (5, [.ref a1, w0_1, w0_2, w0_3, w0_4, w0_5, .ref a7, w0_7, w0_8, w0_9, w0_10, w0_11, w0_12])), (a1, .inl (cI, 99, .inl f1)), (a7, .inl (cI, 3, .inl t3.2.2))]) (L := fun (t3 : Int32 × Int32 × (Nat → Int32)) => [(0, .ref a0), (1, .int u1), (2, .int u2), (3, .int t3.1), (4, .int t3.2.1), (5, .int x7)]) (nL := 9) (pcx := 177) (res := res) (A := A) (H0 := s.heap) ?_ (fun hx3 => ?_)
          · intro t3 H locs hsp hP hD hS ls hl
            obtain ⟨x44, x45, y46⟩ := t3
            unfold s_X5_bestMixture_X3 at hsp; try dsimp only at hsp
            have hP : va_P D vwCl [(a0, .inr (5, [.ref a1, w0_1, w0_2, w0_3, w0_4, w0_5, .ref a7, w0_7, w0_8, w0_9, w0_10, w0_11, w0_12])), (a1, .inl (cI, 99, .inl f1)), (a7, .inl (cI, 3, .inl y46))] H := hP
            have hD : va_D A [(a0, .inr (5, [.ref a1, w0_1, w0_2, w0_3, w0_4, w0_5, .ref a7, w0_7, w0_8, w0_9, w0_10, w0_11, w0_12])), (a1, .inl (cI, 99, .inl f1)), (a7, .inl (cI, 3, .inl y46))] := hD
            have hl : lv_has ls 9 [(0, .ref a0), (1, .int u1), (2, .int u2), (3, .int x44), (4, .int x45), (5, .int x7)] := hl
            obtain ⟨x47, ex47, hsp⟩ := nmE hsp
            refine lv_iinc (k := 5) (v := x47) (lv' := [(5, .int x47), (0, .ref a0), (1, .int u1), (2, .int u2), (3, .int x44), (4, .int x45)]) hx hb dX5_bestMixture_177 hl rfl (by rw [ex47]; rfl) (by decide) rfl (fun ls hl => ?_)
            refine lv_goto (tgt := 32) hx hb dX5_bestMixture_180 (by decide) ?_
            exact ih1 (x44, x45, x47, y46) _ _ hsp hP hD hS _ (lv_sub hl [1, 2, 3, 4, 5, 0] rfl)
          have hl := lv_sub hl (l' := [(0, .ref a0), (1, .int u1), (2, .int u2), (3, .int x5), (4, .int x6), (5, .int x7), (6, .int 0), (7, .int 0)]) [2, 3, 4, 5, 6, 7, 1, 0] rfl
          refine lp_rule (D := D) (F := s_X5_bestMixture_L3 (s_X5_bestMixture_X3 (s_X5_bestMixture_L1 f1 u1 (s_X5_bestMixture_X1 u2) n1) x7)) (P := fun (tv : Int32 × Int32 × Int32 × (Nat → Int32)) => [(a0, .inr (5, [.ref a1, w0_1, w0_2, w0_3, w0_4, w0_5, .ref a7, w0_7, w0_8, w0_9, w0_10, w0_11, w0_12])), (a1, .inl (cI, 99, .inl f1)), (a7, .inl (cI, 3, .inl tv.2.2.2))]) (L := fun (tv : Int32 × Int32 × Int32 × (Nat → Int32)) => [(0, .ref a0), (1, .int u1), (2, .int u2), (3, .int tv.1), (4, .int tv.2.1), (5, .int x7), (6, .int 0), (7, .int tv.2.2.1)]) (nL := 9) (res := res) (A := A) (H0 := s.heap) (fun _ => rfl) ?_ 1000 (x5, x6, 0, y8) _ _ hsp hP hD hS _ hl
          · intro n3 ih3 tv H locs hsp hP hD hS ls hl
            obtain ⟨x40, x41, x42, y43⟩ := tv
            have hsp : s_X5_bestMixture_B3   (s_X5_bestMixture_X3 (s_X5_bestMixture_L1 f1 u1 (s_X5_bestMixture_X1 u2) n1) x7) (s_X5_bestMixture_L3 (s_X5_bestMixture_X3 (s_X5_bestMixture_L1 f1 u1 (s_X5_bestMixture_X1 u2) n1) x7) n3) x40 x41 x42 y43 = some res := hsp
            unfold s_X5_bestMixture_B3 at hsp
            have hP : va_P D vwCl [(a0, .inr (5, [.ref a1, w0_1, w0_2, w0_3, w0_4, w0_5, .ref a7, w0_7, w0_8, w0_9, w0_10, w0_11, w0_12])), (a1, .inl (cI, 99, .inl f1)), (a7, .inl (cI, 3, .inl y43))] H := hP
            have hD : va_D A [(a0, .inr (5, [.ref a1, w0_1, w0_2, w0_3, w0_4, w0_5, .ref a7, w0_7, w0_8, w0_9, w0_10, w0_11, w0_12])), (a1, .inl (cI, 99, .inl f1)), (a7, .inl (cI, 3, .inl y43))] := hD
            have hl : lv_has ls 9 [(0, .ref a0), (1, .int u1), (2, .int u2), (3, .int x40), (4, .int x41), (5, .int x7), (6, .int 0), (7, .int x42)] := hl
            refine lv_iload hx hb dX5_bestMixture_92 (lv_at hl 7 rfl) ?_
            refine lv_bipush (v := 81) hx hb dX5_bestMixture_94 (by decide) ?_
            refine lv_icmp_ge (tgt := 177) hx hb dX5_bestMixture_96 (by decide) (fun c48 => ?_) (fun c48 => ?_)
            · have hsp := itT hsp c48
              exact hx3 (x40, x41, y43) _ _ hsp hP hD hS _ (lv_sub hl [0, 1, 2, 3, 4, 5] rfl)
            have hsp := itF hsp c48
            refine lv_iload hx hb dX5_bestMixture_99 (lv_at hl 6 rfl) ?_
            refine lv_if_eq (tgt := 177) hx hb dX5_bestMixture_101 (by decide) (fun _ => ?_) (fun hc => absurd hc (by decide))
            exact hx3 (x40, x41, y43) _ _ hsp hP hD hS _ (lv_sub hl [0, 1, 2, 3, 4, 5] rfl)
        have hsp := itF hsp c39
        refine lv_aload_n hx hb dX5_bestMixture_67 rfl (lv_at hl 0 rfl) ?_
        refine lv_iload hx hb dX5_bestMixture_68 (lv_at hl 5 rfl) ?_
        refine lv_bipush (v := 8) hx hb dX5_bestMixture_70 (by decide) ?_
        obtain ⟨x49, ex49, hnx49, hsp⟩ := rmdE hsp
        refine lv_irem hx hb dX5_bestMixture_72 hnx49 ?_
        refine r_top ex49 ?_
        obtain ⟨r50, hcr50, hsp⟩ := clE hsp
        refine call_i (w1 := []) (ws' := [(a0, .inr (5, [.ref a1, w0_1, w0_2, w0_3, w0_4, w0_5, .ref a7, w0_7, w0_8, w0_9, w0_10, w0_11, w0_12])), (a1, .inl (cI, 99, .inl f1)), (a7, .inl (cI, 3, .inl y8))]) (va_runS (As := [.int x49]) (rest := [.ref a0]) ⟨hx, hb, hml, hown, hts⟩ (k_X5_p l D cI cZ cC cS H.size x49 r50 hcr50) (va_cwS 1 hts gX5_bestMixture_X5_p rfl rfl rfl nd_X5_p.2 ⟨Nat.le_of_ble_eq_true rfl, Nat.le_of_ble_eq_true rfl⟩) (PB.preS hKU hP hD [] rfl rfl) rfl rfl hl.1 rfl (lv_room (Nat.le_of_ble_eq_true rfl)) dX5_bestMixture_73 ⟨Nat.zero_le _, Nat.zero_le _⟩) hS hP hD hA [] rfl rfl (by first | (simp only [wset, List.set_cons_zero, List.set_cons_succ]; done) | rfl) rfl (fun H locs hP hD hS => ?_)
        obtain ⟨r51, hcr51, hsp⟩ := clE hsp
        refine call_i (w1 := [(a0, .inr (5, [.ref a1, w0_1, w0_2, w0_3, w0_4, w0_5, .ref a7, w0_7, w0_8, w0_9, w0_10, w0_11, w0_12])), (a1, .inl (cI, 99, .inl f1))]) (ws' := [(a0, .inr (5, [.ref a1, w0_1, w0_2, w0_3, w0_4, w0_5, .ref a7, w0_7, w0_8, w0_9, w0_10, w0_11, w0_12])), (a1, .inl (cI, 99, .inl f1)), (a7, .inl (cI, 3, .inl y8))]) (va_runV (As := [.int r50]) (rest := []) ⟨hx, hb, hml, hown, hts⟩ (k_X5_drops l D cI cZ cC cS H.size a0 a1 (w0_1) (w0_2) (w0_3) (w0_4) (w0_5) (.ref a7) (w0_7) (w0_8) (w0_9) (w0_10) (w0_11) (w0_12) f1 r50 r51 hcr51) (cwV 1 hts gX5_bestMixture_X5_drops rfl rfl rfl nd_X5_drops ⟨Nat.le_of_ble_eq_true rfl, Nat.le_of_ble_eq_true rfl⟩) (PB.preV (ci := 5) (q0 := 0) hKU hP hD [0, 1] rfl rfl rfl rfl) rfl rfl hl.1 rfl (lv_room (Nat.le_of_ble_eq_true rfl)) dX5_bestMixture_76 ⟨Nat.zero_le _, Nat.zero_le _⟩) hS hP hD hA [0, 1] rfl rfl (by first | (simp only [wset, List.set_cons_zero, List.set_cons_succ]; done) | rfl) rfl (fun H locs hP hD hS => ?_)
        refine lv_if_le (tgt := 86) hx hb dX5_bestMixture_79 (by decide) (fun c52 => ?_) (fun c52 => ?_)
        · have hsp := itT hsp c52
          refine lv_iconst (v := 0) hx hb dX5_bestMixture_86 (by decide) ?_
          refine lv_istore (lv' := [(6, .int 0), (0, .ref a0), (1, .int u1), (2, .int u2), (3, .int x5), (4, .int x6), (5, .int x7)]) hx hb dX5_bestMixture_87 hl (by decide) rfl (fun ls hl => ?_)
          refine lv_iconst (v := 0) hx hb dX5_bestMixture_89 (by decide) ?_
          refine lv_istore (lv' := [(7, .int 0), (6, .int 0), (0, .ref a0), (1, .int u1), (2, .int u2), (3, .int x5), (4, .int x6), (5, .int x7)]) hx hb dX5_bestMixture_90 hl (by decide) rfl (fun ls hl => ?_)
          refine ex_rule (D := D) (K := s_X5_bestMixture_X4 (s_X5_bestMixture_L1 f1 u1 (s_X5_bestMixture_X1 u2) n1) x7) (P := fun (t4 : Int32 × Int32 × (Nat → Int32)) => [(a0, .inr (5, [.ref a1, w0_1, w0_2, w0_3, w0_4, w0_5, .ref a7, w0_7, w0_8, w0_9, w0_10, w0_11, w0_12])), (a1, .inl (cI, 99, .inl f1)), (a7, .inl (cI, 3, .inl t4.2.2))]) (L := fun (t4 : Int32 × Int32 × (Nat → Int32)) => [(0, .ref a0), (1, .int u1), (2, .int u2), (3, .int t4.1), (4, .int t4.2.1), (5, .int x7)]) (nL := 9) (pcx := 177) (res := res) (A := A) (H0 := s.heap) ?_ (fun hx4 => ?_)
          · intro t4 H locs hsp hP hD hS ls hl
            obtain ⟨x57, x58, y59⟩ := t4
            unfold s_X5_bestMixture_X4 at hsp; try dsimp only at hsp
            have hP : va_P D vwCl [(a0, .inr (5, [.ref a1, w0_1, w0_2, w0_3, w0_4, w0_5, .ref a7, w0_7, w0_8, w0_9, w0_10, w0_11, w0_12])), (a1, .inl (cI, 99, .inl f1)), (a7, .inl (cI, 3, .inl y59))] H := hP
            have hD : va_D A [(a0, .inr (5, [.ref a1, w0_1, w0_2, w0_3, w0_4, w0_5, .ref a7, w0_7, w0_8, w0_9, w0_10, w0_11, w0_12])), (a1, .inl (cI, 99, .inl f1)), (a7, .inl (cI, 3, .inl y59))] := hD
            have hl : lv_has ls 9 [(0, .ref a0), (1, .int u1), (2, .int u2), (3, .int x57), (4, .int x58), (5, .int x7)] := hl
            obtain ⟨x60, ex60, hsp⟩ := nmE hsp
            refine lv_iinc (k := 5) (v := x60) (lv' := [(5, .int x60), (0, .ref a0), (1, .int u1), (2, .int u2), (3, .int x57), (4, .int x58)]) hx hb dX5_bestMixture_177 hl rfl (by rw [ex60]; rfl) (by decide) rfl (fun ls hl => ?_)
            refine lv_goto (tgt := 32) hx hb dX5_bestMixture_180 (by decide) ?_
            exact ih1 (x57, x58, x60, y59) _ _ hsp hP hD hS _ (lv_sub hl [1, 2, 3, 4, 5, 0] rfl)
          have hl := lv_sub hl (l' := [(0, .ref a0), (1, .int u1), (2, .int u2), (3, .int x5), (4, .int x6), (5, .int x7), (6, .int 0), (7, .int 0)]) [2, 3, 4, 5, 6, 7, 1, 0] rfl
          refine lp_rule (D := D) (F := s_X5_bestMixture_L4 (s_X5_bestMixture_X4 (s_X5_bestMixture_L1 f1 u1 (s_X5_bestMixture_X1 u2) n1) x7)) (P := fun (tv : Int32 × Int32 × Int32 × (Nat → Int32)) => [(a0, .inr (5, [.ref a1, w0_1, w0_2, w0_3, w0_4, w0_5, .ref a7, w0_7, w0_8, w0_9, w0_10, w0_11, w0_12])), (a1, .inl (cI, 99, .inl f1)), (a7, .inl (cI, 3, .inl tv.2.2.2))]) (L := fun (tv : Int32 × Int32 × Int32 × (Nat → Int32)) => [(0, .ref a0), (1, .int u1), (2, .int u2), (3, .int tv.1), (4, .int tv.2.1), (5, .int x7), (6, .int 0), (7, .int tv.2.2.1)]) (nL := 9) (res := res) (A := A) (H0 := s.heap) (fun _ => rfl) ?_ 1000 (x5, x6, 0, y8) _ _ hsp hP hD hS _ hl
          · intro n4 ih4 tv H locs hsp hP hD hS ls hl
            obtain ⟨x53, x54, x55, y56⟩ := tv
            have hsp : s_X5_bestMixture_B4   (s_X5_bestMixture_X4 (s_X5_bestMixture_L1 f1 u1 (s_X5_bestMixture_X1 u2) n1) x7) (s_X5_bestMixture_L4 (s_X5_bestMixture_X4 (s_X5_bestMixture_L1 f1 u1 (s_X5_bestMixture_X1 u2) n1) x7) n4) x53 x54 x55 y56 = some res := hsp
            unfold s_X5_bestMixture_B4 at hsp
            have hP : va_P D vwCl [(a0, .inr (5, [.ref a1, w0_1, w0_2, w0_3, w0_4, w0_5, .ref a7, w0_7, w0_8, w0_9, w0_10, w0_11, w0_12])), (a1, .inl (cI, 99, .inl f1)), (a7, .inl (cI, 3, .inl y56))] H := hP
            have hD : va_D A [(a0, .inr (5, [.ref a1, w0_1, w0_2, w0_3, w0_4, w0_5, .ref a7, w0_7, w0_8, w0_9, w0_10, w0_11, w0_12])), (a1, .inl (cI, 99, .inl f1)), (a7, .inl (cI, 3, .inl y56))] := hD
            have hl : lv_has ls 9 [(0, .ref a0), (1, .int u1), (2, .int u2), (3, .int x53), (4, .int x54), (5, .int x7), (6, .int 0), (7, .int x55)] := hl
            refine lv_iload hx hb dX5_bestMixture_92 (lv_at hl 7 rfl) ?_
            refine lv_bipush (v := 81) hx hb dX5_bestMixture_94 (by decide) ?_
            refine lv_icmp_ge (tgt := 177) hx hb dX5_bestMixture_96 (by decide) (fun c61 => ?_) (fun c61 => ?_)
            · have hsp := itT hsp c61
              exact hx4 (x53, x54, y56) _ _ hsp hP hD hS _ (lv_sub hl [0, 1, 2, 3, 4, 5] rfl)
            have hsp := itF hsp c61
            refine lv_iload hx hb dX5_bestMixture_99 (lv_at hl 6 rfl) ?_
            refine lv_if_eq (tgt := 177) hx hb dX5_bestMixture_101 (by decide) (fun _ => ?_) (fun hc => absurd hc (by decide))
            exact hx4 (x53, x54, y56) _ _ hsp hP hD hS _ (lv_sub hl [0, 1, 2, 3, 4, 5] rfl)
        have hsp := itF hsp c52
        refine lv_iconst (v := 1) hx hb dX5_bestMixture_82 (by decide) ?_
        refine lv_goto (tgt := 87) hx hb dX5_bestMixture_83 (by decide) ?_
        refine lv_istore (lv' := [(6, .int 1), (0, .ref a0), (1, .int u1), (2, .int u2), (3, .int x5), (4, .int x6), (5, .int x7)]) hx hb dX5_bestMixture_87 hl (by decide) rfl (fun ls hl => ?_)
        refine lv_iconst (v := 0) hx hb dX5_bestMixture_89 (by decide) ?_
        refine lv_istore (lv' := [(7, .int 0), (6, .int 1), (0, .ref a0), (1, .int u1), (2, .int u2), (3, .int x5), (4, .int x6), (5, .int x7)]) hx hb dX5_bestMixture_90 hl (by decide) rfl (fun ls hl => ?_)
        refine ex_rule (D := D) (K := s_X5_bestMixture_X5 (s_X5_bestMixture_L1 f1 u1 (s_X5_bestMixture_X1 u2) n1) x7) (P := fun (t5 : Int32 × Int32 × (Nat → Int32)) => [(a0, .inr (5, [.ref a1, w0_1, w0_2, w0_3, w0_4, w0_5, .ref a7, w0_7, w0_8, w0_9, w0_10, w0_11, w0_12])), (a1, .inl (cI, 99, .inl f1)), (a7, .inl (cI, 3, .inl t5.2.2))]) (L := fun (t5 : Int32 × Int32 × (Nat → Int32)) => [(0, .ref a0), (1, .int u1), (2, .int u2), (3, .int t5.1), (4, .int t5.2.1), (5, .int x7)]) (nL := 9) (pcx := 177) (res := res) (A := A) (H0 := s.heap) ?_ (fun hx5 => ?_)
        · intro t5 H locs hsp hP hD hS ls hl
          obtain ⟨x66, x67, y68⟩ := t5
          unfold s_X5_bestMixture_X5 at hsp; try dsimp only at hsp
          have hP : va_P D vwCl [(a0, .inr (5, [.ref a1, w0_1, w0_2, w0_3, w0_4, w0_5, .ref a7, w0_7, w0_8, w0_9, w0_10, w0_11, w0_12])), (a1, .inl (cI, 99, .inl f1)), (a7, .inl (cI, 3, .inl y68))] H := hP
          have hD : va_D A [(a0, .inr (5, [.ref a1, w0_1, w0_2, w0_3, w0_4, w0_5, .ref a7, w0_7, w0_8, w0_9, w0_10, w0_11, w0_12])), (a1, .inl (cI, 99, .inl f1)), (a7, .inl (cI, 3, .inl y68))] := hD
          have hl : lv_has ls 9 [(0, .ref a0), (1, .int u1), (2, .int u2), (3, .int x66), (4, .int x67), (5, .int x7)] := hl
          obtain ⟨x69, ex69, hsp⟩ := nmE hsp
          refine lv_iinc (k := 5) (v := x69) (lv' := [(5, .int x69), (0, .ref a0), (1, .int u1), (2, .int u2), (3, .int x66), (4, .int x67)]) hx hb dX5_bestMixture_177 hl rfl (by rw [ex69]; rfl) (by decide) rfl (fun ls hl => ?_)
          refine lv_goto (tgt := 32) hx hb dX5_bestMixture_180 (by decide) ?_
          exact ih1 (x66, x67, x69, y68) _ _ hsp hP hD hS _ (lv_sub hl [1, 2, 3, 4, 5, 0] rfl)
        have hl := lv_sub hl (l' := [(0, .ref a0), (1, .int u1), (2, .int u2), (3, .int x5), (4, .int x6), (5, .int x7), (6, .int 1), (7, .int 0)]) [2, 3, 4, 5, 6, 7, 1, 0] rfl
        refine lp_rule (D := D) (F := s_X5_bestMixture_L5 x7 f1 u1 (s_X5_bestMixture_X5 (s_X5_bestMixture_L1 f1 u1 (s_X5_bestMixture_X1 u2) n1) x7)) (P := fun (tv : Int32 × Int32 × Int32 × (Nat → Int32)) => [(a0, .inr (5, [.ref a1, w0_1, w0_2, w0_3, w0_4, w0_5, .ref a7, w0_7, w0_8, w0_9, w0_10, w0_11, w0_12])), (a1, .inl (cI, 99, .inl f1)), (a7, .inl (cI, 3, .inl tv.2.2.2))]) (L := fun (tv : Int32 × Int32 × Int32 × (Nat → Int32)) => [(0, .ref a0), (1, .int u1), (2, .int u2), (3, .int tv.1), (4, .int tv.2.1), (5, .int x7), (6, .int 1), (7, .int tv.2.2.1)]) (nL := 9) (res := res) (A := A) (H0 := s.heap) (fun _ => rfl) ?_ 1000 (x5, x6, 0, y8) _ _ hsp hP hD hS _ hl
        · intro n5 ih5 tv H locs hsp hP hD hS ls hl
          obtain ⟨x62, x63, x64, y65⟩ := tv
          have hsp : s_X5_bestMixture_B5  x7 f1 u1 (s_X5_bestMixture_X5 (s_X5_bestMixture_L1 f1 u1 (s_X5_bestMixture_X1 u2) n1) x7) (s_X5_bestMixture_L5 x7 f1 u1 (s_X5_bestMixture_X5 (s_X5_bestMixture_L1 f1 u1 (s_X5_bestMixture_X1 u2) n1) x7) n5) x62 x63 x64 y65 = some res := hsp
          unfold s_X5_bestMixture_B5 at hsp
          have hP : va_P D vwCl [(a0, .inr (5, [.ref a1, w0_1, w0_2, w0_3, w0_4, w0_5, .ref a7, w0_7, w0_8, w0_9, w0_10, w0_11, w0_12])), (a1, .inl (cI, 99, .inl f1)), (a7, .inl (cI, 3, .inl y65))] H := hP
          have hD : va_D A [(a0, .inr (5, [.ref a1, w0_1, w0_2, w0_3, w0_4, w0_5, .ref a7, w0_7, w0_8, w0_9, w0_10, w0_11, w0_12])), (a1, .inl (cI, 99, .inl f1)), (a7, .inl (cI, 3, .inl y65))] := hD
          have hl : lv_has ls 9 [(0, .ref a0), (1, .int u1), (2, .int u2), (3, .int x62), (4, .int x63), (5, .int x7), (6, .int 1), (7, .int x64)] := hl
          refine lv_iload hx hb dX5_bestMixture_92 (lv_at hl 7 rfl) ?_
          refine lv_bipush (v := 81) hx hb dX5_bestMixture_94 (by decide) ?_
          refine lv_icmp_ge (tgt := 177) hx hb dX5_bestMixture_96 (by decide) (fun c70 => ?_) (fun c70 => ?_)
          · have hsp := itT hsp c70
            exact hx5 (x62, x63, y65) _ _ hsp hP hD hS _ (lv_sub hl [0, 1, 2, 3, 4, 5] rfl)
          have hsp := itF hsp c70
          refine lv_iload hx hb dX5_bestMixture_99 (lv_at hl 6 rfl) ?_
          refine lv_if_eq (tgt := 177) hx hb dX5_bestMixture_101 (by decide) (fun hc => absurd hc (by decide)) (fun _ => ?_)
          refine lv_aload_n hx hb dX5_bestMixture_104 rfl (lv_at hl 0 rfl) ?_
          refine lv_iload_n hx hb dX5_bestMixture_105 rfl (lv_at hl 1 rfl) ?_
          refine lv_iload hx hb dX5_bestMixture_106 (lv_at hl 5 rfl) ?_
          refine lv_bipush (v := 8) hx hb dX5_bestMixture_108 (by decide) ?_
          obtain ⟨x71, ex71, hnx71, hsp⟩ := dvE hsp
          refine lv_idiv hx hb dX5_bestMixture_110 hnx71 ?_
          refine r_top ex71 ?_
          refine lv_iload hx hb dX5_bestMixture_111 (lv_at hl 5 rfl) ?_
          refine lv_bipush (v := 8) hx hb dX5_bestMixture_113 (by decide) ?_
          obtain ⟨x72, ex72, hnx72, hsp⟩ := rmdE hsp
          refine lv_irem hx hb dX5_bestMixture_115 hnx72 ?_
          refine r_top ex72 ?_
          refine lv_iconst (v := 1) hx hb dX5_bestMixture_116 (by decide) ?_
          refine lv_iload hx hb dX5_bestMixture_117 (lv_at hl 7 rfl) ?_
          refine lv_bipush (v := 9) hx hb dX5_bestMixture_119 (by decide) ?_
          obtain ⟨x73, ex73, hnx73, hsp⟩ := dvE hsp
          refine lv_idiv hx hb dX5_bestMixture_121 hnx73 ?_
          refine r_top ex73 ?_
          refine lv_iadd hx hb dX5_bestMixture_122 ?_
          refine lv_iconst (v := 1) hx hb dX5_bestMixture_123 (by decide) ?_
          refine lv_iload hx hb dX5_bestMixture_124 (lv_at hl 7 rfl) ?_
          refine lv_bipush (v := 9) hx hb dX5_bestMixture_126 (by decide) ?_
          obtain ⟨x74, ex74, hnx74, hsp⟩ := rmdE hsp
          refine lv_irem hx hb dX5_bestMixture_128 hnx74 ?_
          refine r_top ex74 ?_
          refine lv_iadd hx hb dX5_bestMixture_129 ?_
          obtain ⟨r75, hcr75, hsp⟩ := clE hsp
          refine call_i (w1 := [(a0, .inr (5, [.ref a1, w0_1, w0_2, w0_3, w0_4, w0_5, .ref a7, w0_7, w0_8, w0_9, w0_10, w0_11, w0_12])), (a1, .inl (cI, 99, .inl f1)), (a7, .inl (cI, 3, .inl r75.2))]) (ws' := [(a0, .inr (5, [.ref a1, w0_1, w0_2, w0_3, w0_4, w0_5, .ref a7, w0_7, w0_8, w0_9, w0_10, w0_11, w0_12])), (a1, .inl (cI, 99, .inl f1)), (a7, .inl (cI, 3, .inl r75.2))]) (va_runV (As := [.int u1, .int x71, .int x72, .int (1 + x73), .int (1 + x74)]) (rest := []) ⟨hx, hb, hml, hown, hts⟩ (k_X5_mixed l D cI cZ cC cS H.size a0 a1 a7 (w0_1) (w0_2) (w0_3) (w0_4) (w0_5) (w0_7) (w0_8) (w0_9) (w0_10) (w0_11) (w0_12) f1 y65 u1 x71 x72 (1 + x73) (1 + x74) r75 hcr75) (cwV 5 hts gX5_bestMixture_X5_mixed rfl rfl rfl nd_X5_mixed ⟨Nat.le_of_ble_eq_true rfl, Nat.le_of_ble_eq_true rfl⟩) (PB.preV (ci := 5) (q0 := 0) hKU hP hD [0, 1, 2] rfl rfl rfl rfl) rfl rfl hl.1 rfl (lv_room (Nat.le_of_ble_eq_true rfl)) dX5_bestMixture_130 ⟨Nat.zero_le _, Nat.zero_le _⟩) hS hP hD hA [0, 1, 2] rfl rfl (by first | (simp only [wset, List.set_cons_zero, List.set_cons_succ]; done) | rfl) rfl (fun H locs hP hD hS => ?_)
          refine lv_istore (lv' := [(8, .int r75.1), (0, .ref a0), (1, .int u1), (2, .int u2), (3, .int x62), (4, .int x63), (5, .int x7), (6, .int 1), (7, .int x64)]) hx hb dX5_bestMixture_133 hl (by decide) rfl (fun ls hl => ?_)
          refine lv_iload hx hb dX5_bestMixture_135 (lv_at hl 0 rfl) ?_
          refine lv_iload hx hb dX5_bestMixture_137 (lv_at hl 5 rfl) ?_
          refine lv_icmp_ge (tgt := 153) hx hb dX5_bestMixture_139 (by decide) (fun c76 => ?_) (fun c76 => ?_)
          · have hsp := itT hsp c76
            refine lv_iload_n hx hb dX5_bestMixture_153 rfl (lv_at hl 4 rfl) ?_
            refine lv_istore_n (lv' := [(3, .int x62), (8, .int r75.1), (0, .ref a0), (1, .int u1), (2, .int u2), (4, .int x63), (5, .int x7), (6, .int 1), (7, .int x64)]) hx hb dX5_bestMixture_154 rfl hl (by decide) rfl (fun ls hl => ?_)
            refine lv_iload hx hb dX5_bestMixture_155 (lv_at hl 1 rfl) ?_
            refine lv_iload hx hb dX5_bestMixture_157 (lv_at hl 5 rfl) ?_
            refine lv_icmp_ge (tgt := 167) hx hb dX5_bestMixture_159 (by decide) (fun c77 => ?_) (fun c77 => ?_)
            · have hsp := itT hsp c77
              refine lv_iload hx hb dX5_bestMixture_167 (lv_at hl 5 rfl) ?_
              refine lv_istore (lv' := [(4, .int x63), (3, .int x62), (8, .int r75.1), (0, .ref a0), (1, .int u1), (2, .int u2), (5, .int x7), (6, .int 1), (7, .int x64)]) hx hb dX5_bestMixture_169 hl (by decide) rfl (fun ls hl => ?_)
              obtain ⟨x78, ex78, hsp⟩ := nmE hsp
              refine lv_iinc (k := 8) (v := x78) (lv' := [(7, .int x78), (4, .int x63), (3, .int x62), (8, .int r75.1), (0, .ref a0), (1, .int u1), (2, .int u2), (5, .int x7), (6, .int 1)]) hx hb dX5_bestMixture_171 hl rfl (by rw [ex78]; rfl) (by decide) rfl (fun ls hl => ?_)
              refine lv_goto (tgt := 92) hx hb dX5_bestMixture_174 (by decide) ?_
              exact ih5 (x62, x63, x78, r75.2) _ _ hsp hP hD hS _ (lv_sub hl [4, 5, 6, 2, 1, 7, 8, 0] rfl)
            have hsp := itF hsp c77
            refine lv_iload hx hb dX5_bestMixture_162 (lv_at hl 1 rfl) ?_
            refine lv_goto (tgt := 169) hx hb dX5_bestMixture_164 (by decide) ?_
            refine lv_istore (lv' := [(4, .int r75.1), (3, .int x62), (8, .int r75.1), (0, .ref a0), (1, .int u1), (2, .int u2), (5, .int x7), (6, .int 1), (7, .int x64)]) hx hb dX5_bestMixture_169 hl (by decide) rfl (fun ls hl => ?_)
            obtain ⟨x79, ex79, hsp⟩ := nmE hsp
            refine lv_iinc (k := 8) (v := x79) (lv' := [(7, .int x79), (4, .int r75.1), (3, .int x62), (8, .int r75.1), (0, .ref a0), (1, .int u1), (2, .int u2), (5, .int x7), (6, .int 1)]) hx hb dX5_bestMixture_171 hl rfl (by rw [ex79]; rfl) (by decide) rfl (fun ls hl => ?_)
            refine lv_goto (tgt := 92) hx hb dX5_bestMixture_174 (by decide) ?_
            exact ih5 (x62, r75.1, x79, r75.2) _ _ hsp hP hD hS _ (lv_sub hl [4, 5, 6, 2, 1, 7, 8, 0] rfl)
          have hsp := itF hsp c76
          refine lv_bipush (v := 81) hx hb dX5_bestMixture_142 (by decide) ?_
          refine lv_iload hx hb dX5_bestMixture_144 (lv_at hl 6 rfl) ?_
          refine lv_imul hx hb dX5_bestMixture_146 ?_
          refine lv_iload hx hb dX5_bestMixture_147 (lv_at hl 8 rfl) ?_
          refine lv_iadd hx hb dX5_bestMixture_149 ?_
          refine lv_goto (tgt := 154) hx hb dX5_bestMixture_150 (by decide) ?_
          obtain ⟨x80, ex80, hsp⟩ := nmE hsp
          refine r_top ex80 ?_
          refine lv_istore_n (lv' := [(3, .int x80), (8, .int r75.1), (0, .ref a0), (1, .int u1), (2, .int u2), (4, .int x63), (5, .int x7), (6, .int 1), (7, .int x64)]) hx hb dX5_bestMixture_154 rfl hl (by decide) rfl (fun ls hl => ?_)
          refine lv_iload hx hb dX5_bestMixture_155 (lv_at hl 1 rfl) ?_
          refine lv_iload hx hb dX5_bestMixture_157 (lv_at hl 5 rfl) ?_
          refine lv_icmp_ge (tgt := 167) hx hb dX5_bestMixture_159 (by decide) (fun c81 => ?_) (fun c81 => ?_)
          · have hsp := itT hsp c81
            refine lv_iload hx hb dX5_bestMixture_167 (lv_at hl 5 rfl) ?_
            refine lv_istore (lv' := [(4, .int x63), (3, .int x80), (8, .int r75.1), (0, .ref a0), (1, .int u1), (2, .int u2), (5, .int x7), (6, .int 1), (7, .int x64)]) hx hb dX5_bestMixture_169 hl (by decide) rfl (fun ls hl => ?_)
            obtain ⟨x82, ex82, hsp⟩ := nmE hsp
            refine lv_iinc (k := 8) (v := x82) (lv' := [(7, .int x82), (4, .int x63), (3, .int x80), (8, .int r75.1), (0, .ref a0), (1, .int u1), (2, .int u2), (5, .int x7), (6, .int 1)]) hx hb dX5_bestMixture_171 hl rfl (by rw [ex82]; rfl) (by decide) rfl (fun ls hl => ?_)
            refine lv_goto (tgt := 92) hx hb dX5_bestMixture_174 (by decide) ?_
            exact ih5 (x80, x63, x82, r75.2) _ _ hsp hP hD hS _ (lv_sub hl [4, 5, 6, 2, 1, 7, 8, 0] rfl)
          have hsp := itF hsp c81
          refine lv_iload hx hb dX5_bestMixture_162 (lv_at hl 1 rfl) ?_
          refine lv_goto (tgt := 169) hx hb dX5_bestMixture_164 (by decide) ?_
          refine lv_istore (lv' := [(4, .int r75.1), (3, .int x80), (8, .int r75.1), (0, .ref a0), (1, .int u1), (2, .int u2), (5, .int x7), (6, .int 1), (7, .int x64)]) hx hb dX5_bestMixture_169 hl (by decide) rfl (fun ls hl => ?_)
          obtain ⟨x83, ex83, hsp⟩ := nmE hsp
          refine lv_iinc (k := 8) (v := x83) (lv' := [(7, .int x83), (4, .int r75.1), (3, .int x80), (8, .int r75.1), (0, .ref a0), (1, .int u1), (2, .int u2), (5, .int x7), (6, .int 1)]) hx hb dX5_bestMixture_171 hl rfl (by rw [ex83]; rfl) (by decide) rfl (fun ls hl => ?_)
          refine lv_goto (tgt := 92) hx hb dX5_bestMixture_174 (by decide) ?_
          exact ih5 (x80, r75.1, x83, r75.2) _ _ hsp hP hD hS _ (lv_sub hl [4, 5, 6, 2, 1, 7, 8, 0] rfl)
    have hsp := itT hsp c4
    refine lv_bipush (v := (-2)) hx hb dX5_bestMixture_18 (by decide) ?_
    have hres := Option.some.inj hsp
    subst hres
    exact W.iret (v := (-2)) hx hb hr (fun t ht hW => ⟨⟨(-2), (), rfl, rfl, P_at ht hP⟩, hS.F ht⟩) hS.2.2 dX5_bestMixture_20
  have hsp := itT hsp c2
  refine lv_iconst (v := (-1)) hx hb dX5_bestMixture_7 (by decide) ?_
  have hres := Option.some.inj hsp
  subst hres
  exact W.iret (v := (-1)) hx hb hr (fun t ht hW => ⟨⟨(-1), (), rfl, rfl, P_at ht hP⟩, hS.F ht⟩) hS.2.2 dX5_bestMixture_8

theorem nd_X5_inPots : yX5_inPots.cls = RX5 ∧ yX5_inPots.cls ≠ "java/lang/invoke/MethodHandle" ∧ yX5_inPots.cls ≠ "java/lang/invoke/VarHandle" ∧ (parseMethodDescriptor yX5_inPots.desc).map (fun d => d.parameters.length) = some 0 := by decide +kernel
set_option maxHeartbeats 8000000 in
set_option maxRecDepth 100000 in
theorem k_X5_inPots (l : Launch) (D : va_G) (cI cZ cC cS : ClassId) (sz : Nat) (a0 a1 : Nat) (w0_1 : Value) (w0_2 : Value) (w0_3 : Value) (w0_4 : Value) (w0_5 : Value) (w0_6 : Value) (w0_7 : Value) (w0_8 : Value) (w0_9 : Value) (w0_10 : Value) (w0_11 : Value) (w0_12 : Value) (f1 : Nat → Int32) (res : Int32) (hsp : s_X5_inPots f1 = some res) : Met l yX5_inPots wsX5_inPots ({ frames := 1, cells := 0, slots := 0, locals := 21 }) (va_Pc [.ref a0] (PB D cI cZ cC cS [(a0, .inr (5, [.ref a1, w0_1, w0_2, w0_3, w0_4, w0_5, w0_6, w0_7, w0_8, w0_9, w0_10, w0_11, w0_12])), (a1, .inl (cI, 99, .inl f1))] sz)) (va_Qi (fun r (_ : Unit) => r = res) (fun _ t => va_P D vwCl [(a0, .inr (5, [.ref a1, w0_1, w0_2, w0_3, w0_4, w0_5, w0_6, w0_7, w0_8, w0_9, w0_10, w0_11, w0_12])), (a1, .inl (cI, 99, .inl f1))] t.heap) (va_A [(a0, .inr (5, [.ref a1, w0_1, w0_2, w0_3, w0_4, w0_5, w0_6, w0_7, w0_8, w0_9, w0_10, w0_11, w0_12])), (a1, .inl (cI, 99, .inl f1))] sz)) 0 0 (va_A [(a0, .inr (5, [.ref a1, w0_1, w0_2, w0_3, w0_4, w0_5, w0_6, w0_7, w0_8, w0_9, w0_10, w0_11, w0_12])), (a1, .inl (cI, 99, .inl f1))] sz) := by
  refine Met.ofW (cc := cX5_inPots) (maxL := 3) (ret := (some .int)) (by decide) rfl ?_
  intro p e s m args below meth c s₁ B hml hv
  obtain ⟨rfl, hsz, hP, hD0, hKU⟩ := hv
  have hx := B.exec
  have hb := B.bytes
  have hr := B.returns
  have hts := atoms_spec (ws := wsX5_inPots) B.pre
  have hown : s.vm.findClass RX5 = some m.cls := findClass_of_methodNamed B.named
  have hlocks := B.notSynchronized
  have hK := hKU.1
  subst hsz
  have hD := hD0.self (sz := s.heap.size)
  generalize hAe : va_A [(a0, .inr (5, [.ref a1, w0_1, w0_2, w0_3, w0_4, w0_5, w0_6, w0_7, w0_8, w0_9, w0_10, w0_11, w0_12])), (a1, .inl (cI, 99, .inl f1))] s.heap.size = A at hD ⊢
  have hA : ∀ q : Nat, s.heap.size ≤ q → A q := fun q h => by rw [← hAe]; exact Or.inr h
  have hP : va_P D vwCl [(a0, .inr (5, [.ref a1, w0_1, w0_2, w0_3, w0_4, w0_5, w0_6, w0_7, w0_8, w0_9, w0_10, w0_11, w0_12])), (a1, .inl (cI, 99, .inl f1))] s.heap := hP
  generalize hHe : s.heap = H at hP ⊢
  have hS : va_S A s.heap H [] := by rw [hHe]; exact va_S.rf
  have hl := lv_entry ([.ref a0]) (n := 3) (Nat.le_of_ble_eq_true rfl)
  rw [lg_entry_eq]
  generalize (lg_sl ([.ref a0]) ++ List.replicate (3 - (lg_sl ([.ref a0])).length) Slot.unset).toArray = ls at hl ⊢
  have hl : lv_has ls 3 [(0, .ref a0)] := hl
  unfold s_X5_inPots at hsp
  refine lv_iconst (v := 0) hx hb dX5_inPots_0 (by decide) ?_
  refine lv_istore_n (lv' := [(1, .int 0), (0, .ref a0)]) hx hb dX5_inPots_1 rfl hl (by decide) rfl (fun ls hl => ?_)
  refine lv_iconst (v := 0) hx hb dX5_inPots_2 (by decide) ?_
  refine lv_istore_n (lv' := [(2, .int 0), (1, .int 0), (0, .ref a0)]) hx hb dX5_inPots_3 rfl hl (by decide) rfl (fun ls hl => ?_)
  refine ex_rule (D := D) (K := s_X5_inPots_X1) (P := fun (t1 : Int32) => [(a0, .inr (5, [.ref a1, w0_1, w0_2, w0_3, w0_4, w0_5, w0_6, w0_7, w0_8, w0_9, w0_10, w0_11, w0_12])), (a1, .inl (cI, 99, .inl f1))]) (L := fun (t1 : Int32) => [(1, .int t1)]) (nL := 3) (pcx := 27) (res := res) (A := A) (H0 := s.heap) ?_ (fun hx1 => ?_)
  · intro t1 H locs hsp hP hD hS ls hl
    obtain ⟨x3, rfl⟩ : ∃ z, z = t1 := ⟨_, rfl⟩
    unfold s_X5_inPots_X1 at hsp; try dsimp only at hsp
    have hP : va_P D vwCl [(a0, .inr (5, [.ref a1, w0_1, w0_2, w0_3, w0_4, w0_5, w0_6, w0_7, w0_8, w0_9, w0_10, w0_11, w0_12])), (a1, .inl (cI, 99, .inl f1))] H := hP
    have hD : va_D A [(a0, .inr (5, [.ref a1, w0_1, w0_2, w0_3, w0_4, w0_5, w0_6, w0_7, w0_8, w0_9, w0_10, w0_11, w0_12])), (a1, .inl (cI, 99, .inl f1))] := hD
    have hl : lv_has ls 3 [(1, .int x3)] := hl
    refine lv_iload_n hx hb dX5_inPots_27 rfl (lv_at hl 0 rfl) ?_
    have hres := Option.some.inj hsp
    subst hres
    exact W.iret (v := x3) hx hb hr (fun t ht hW => ⟨⟨x3, (), rfl, rfl, P_at ht hP⟩, hS.F ht⟩) hS.2.2 dX5_inPots_28
  have hl := lv_sub hl (l' := [(0, .ref a0), (1, .int 0), (2, .int 0)]) [2, 1, 0] rfl
  refine lp_rule (D := D) (F := s_X5_inPots_L1 f1 (s_X5_inPots_X1)) (P := fun (tv : Int32 × Int32) => [(a0, .inr (5, [.ref a1, w0_1, w0_2, w0_3, w0_4, w0_5, w0_6, w0_7, w0_8, w0_9, w0_10, w0_11, w0_12])), (a1, .inl (cI, 99, .inl f1))]) (L := fun (tv : Int32 × Int32) => [(0, .ref a0), (1, .int tv.1), (2, .int tv.2)]) (nL := 3) (res := res) (A := A) (H0 := s.heap) (fun _ => rfl) ?_ 1000 (0, 0) _ _ hsp hP hD hS _ hl
  · intro n1 ih1 tv H locs hsp hP hD hS ls hl
    obtain ⟨x1, x2⟩ := tv
    have hsp : s_X5_inPots_B1  f1 (s_X5_inPots_X1) (s_X5_inPots_L1 f1 (s_X5_inPots_X1) n1) x1 x2 = some res := hsp
    unfold s_X5_inPots_B1 at hsp
    have hP : va_P D vwCl [(a0, .inr (5, [.ref a1, w0_1, w0_2, w0_3, w0_4, w0_5, w0_6, w0_7, w0_8, w0_9, w0_10, w0_11, w0_12])), (a1, .inl (cI, 99, .inl f1))] H := hP
    have hD : va_D A [(a0, .inr (5, [.ref a1, w0_1, w0_2, w0_3, w0_4, w0_5, w0_6, w0_7, w0_8, w0_9, w0_10, w0_11, w0_12])), (a1, .inl (cI, 99, .inl f1))] := hD
    have hl : lv_has ls 3 [(0, .ref a0), (1, .int x1), (2, .int x2)] := hl
    refine lv_iload_n hx hb dX5_inPots_4 rfl (lv_at hl 2 rfl) ?_
    refine lv_bipush (v := 8) hx hb dX5_inPots_5 (by decide) ?_
    refine lv_icmp_ge (tgt := 27) hx hb dX5_inPots_7 (by decide) (fun c4 => ?_) (fun c4 => ?_)
    · have hsp := itT hsp c4
      exact hx1 x1 _ _ hsp hP hD hS _ (lv_sub hl [1] rfl)
    have hsp := itF hsp c4
    refine lv_iload_n hx hb dX5_inPots_10 rfl (lv_at hl 1 rfl) ?_
    refine lv_aload_n hx hb dX5_inPots_11 rfl (lv_at hl 0 rfl) ?_
    refine lv_iload_n hx hb dX5_inPots_12 rfl (lv_at hl 2 rfl) ?_
    obtain ⟨r5, hcr5, hsp⟩ := clE hsp
    refine call_i (w1 := []) (ws' := [(a0, .inr (5, [.ref a1, w0_1, w0_2, w0_3, w0_4, w0_5, w0_6, w0_7, w0_8, w0_9, w0_10, w0_11, w0_12])), (a1, .inl (cI, 99, .inl f1))]) (va_runS (As := [.int x2]) (rest := [.ref a0, .int x1]) ⟨hx, hb, hml, hown, hts⟩ (k_X5_p l D cI cZ cC cS H.size x2 r5 hcr5) (va_cwS 1 hts gX5_inPots_X5_p rfl rfl rfl nd_X5_p.2 ⟨Nat.le_of_ble_eq_true rfl, Nat.le_of_ble_eq_true rfl⟩) (PB.preS hKU hP hD [] rfl rfl) rfl rfl hl.1 rfl (lv_room (Nat.le_of_ble_eq_true rfl)) dX5_inPots_13 ⟨Nat.zero_le _, Nat.zero_le _⟩) hS hP hD hA [] rfl rfl (by first | (simp only [wset, List.set_cons_zero, List.set_cons_succ]; done) | rfl) rfl (fun H locs hP hD hS => ?_)
    obtain ⟨r6, hcr6, hsp⟩ := clE hsp
    refine call_i (w1 := [(a0, .inr (5, [.ref a1, w0_1, w0_2, w0_3, w0_4, w0_5, w0_6, w0_7, w0_8, w0_9, w0_10, w0_11, w0_12])), (a1, .inl (cI, 99, .inl f1))]) (ws' := [(a0, .inr (5, [.ref a1, w0_1, w0_2, w0_3, w0_4, w0_5, w0_6, w0_7, w0_8, w0_9, w0_10, w0_11, w0_12])), (a1, .inl (cI, 99, .inl f1))]) (va_runV (As := [.int r5]) (rest := [.int x1]) ⟨hx, hb, hml, hown, hts⟩ (k_X5_drops l D cI cZ cC cS H.size a0 a1 (w0_1) (w0_2) (w0_3) (w0_4) (w0_5) (w0_6) (w0_7) (w0_8) (w0_9) (w0_10) (w0_11) (w0_12) f1 r5 r6 hcr6) (cwV 1 hts gX5_inPots_X5_drops rfl rfl rfl nd_X5_drops ⟨Nat.le_of_ble_eq_true rfl, Nat.le_of_ble_eq_true rfl⟩) (PB.preV (ci := 5) (q0 := 0) hKU hP hD [0, 1] rfl rfl rfl rfl) rfl rfl hl.1 rfl (lv_room (Nat.le_of_ble_eq_true rfl)) dX5_inPots_16 ⟨Nat.zero_le _, Nat.zero_le _⟩) hS hP hD hA [0, 1] rfl rfl (by first | (simp only [wset, List.set_cons_zero, List.set_cons_succ]; done) | rfl) rfl (fun H locs hP hD hS => ?_)
    refine lv_iadd hx hb dX5_inPots_19 ?_
    obtain ⟨x7, ex7, hsp⟩ := nmE hsp
    refine r_top ex7 ?_
    refine lv_istore_n (lv' := [(1, .int x7), (0, .ref a0), (2, .int x2)]) hx hb dX5_inPots_20 rfl hl (by decide) rfl (fun ls hl => ?_)
    obtain ⟨x8, ex8, hsp⟩ := nmE hsp
    refine lv_iinc (k := 2) (v := x8) (lv' := [(2, .int x8), (1, .int x7), (0, .ref a0)]) hx hb dX5_inPots_21 hl rfl (by rw [ex8]; rfl) (by decide) rfl (fun ls hl => ?_)
    refine lv_goto (tgt := 4) hx hb dX5_inPots_24 (by decide) ?_
    exact ih1 (x7, x8) _ _ hsp hP hD hS _ (lv_sub hl [2, 1, 0] rfl)

theorem nd_X5_strength : yX5_strength.cls = RX5 ∧ yX5_strength.cls ≠ "java/lang/invoke/MethodHandle" ∧ yX5_strength.cls ≠ "java/lang/invoke/VarHandle" ∧ (parseMethodDescriptor yX5_strength.desc).map (fun d => d.parameters.length) = some 2 := by decide +kernel
set_option maxHeartbeats 8000000 in
set_option maxRecDepth 100000 in
theorem k_X5_strength (l : Launch) (D : va_G) (cI cZ cC cS : ClassId) (sz : Nat) (a0 a1 : Nat) (w0_1 : Value) (w0_2 : Value) (w0_3 : Value) (w0_4 : Value) (w0_5 : Value) (w0_6 : Value) (w0_7 : Value) (w0_8 : Value) (w0_9 : Value) (w0_10 : Value) (w0_11 : Value) (w0_12 : Value) (f1 : Nat → Int32) (u1 : Int32) (u2 : Int32) (res : Int32) (hsp : s_X5_strength f1 u1 u2 = some res) : Met l yX5_strength wsX5_strength ({ frames := 1, cells := 0, slots := 0, locals := 21 }) (va_Pc [.ref a0, .int u1, .int u2] (PB D cI cZ cC cS [(a0, .inr (5, [.ref a1, w0_1, w0_2, w0_3, w0_4, w0_5, w0_6, w0_7, w0_8, w0_9, w0_10, w0_11, w0_12])), (a1, .inl (cI, 99, .inl f1))] sz)) (va_Qi (fun r (_ : Unit) => r = res) (fun _ t => va_P D vwCl [(a0, .inr (5, [.ref a1, w0_1, w0_2, w0_3, w0_4, w0_5, w0_6, w0_7, w0_8, w0_9, w0_10, w0_11, w0_12])), (a1, .inl (cI, 99, .inl f1))] t.heap) (va_A [(a0, .inr (5, [.ref a1, w0_1, w0_2, w0_3, w0_4, w0_5, w0_6, w0_7, w0_8, w0_9, w0_10, w0_11, w0_12])), (a1, .inl (cI, 99, .inl f1))] sz)) 0 0 (va_A [(a0, .inr (5, [.ref a1, w0_1, w0_2, w0_3, w0_4, w0_5, w0_6, w0_7, w0_8, w0_9, w0_10, w0_11, w0_12])), (a1, .inl (cI, 99, .inl f1))] sz) := by
  refine Met.ofW (cc := cX5_strength) (maxL := 3) (ret := (some .int)) (by decide) rfl ?_
  intro p e s m args below meth c s₁ B hml hv
  obtain ⟨rfl, hsz, hP, hD0, hKU⟩ := hv
  have hx := B.exec
  have hb := B.bytes
  have hr := B.returns
  have hts := atoms_spec (ws := wsX5_strength) B.pre
  have hown : s.vm.findClass RX5 = some m.cls := findClass_of_methodNamed B.named
  have hlocks := B.notSynchronized
  have hK := hKU.1
  have hf_7 := hts (.fieldLink RX5 7 "ThinnedPotsModel" "s" "[I") (by decide +kernel)
  have hi_X5 : ∀ w ∈ u_ws RX5 TX5 13, w ∈ wsX5_strength := by decide +kernel
  subst hsz
  have hD := hD0.self (sz := s.heap.size)
  generalize hAe : va_A [(a0, .inr (5, [.ref a1, w0_1, w0_2, w0_3, w0_4, w0_5, w0_6, w0_7, w0_8, w0_9, w0_10, w0_11, w0_12])), (a1, .inl (cI, 99, .inl f1))] s.heap.size = A at hD ⊢
  have hA : ∀ q : Nat, s.heap.size ≤ q → A q := fun q h => by rw [← hAe]; exact Or.inr h
  have hP : va_P D vwCl [(a0, .inr (5, [.ref a1, w0_1, w0_2, w0_3, w0_4, w0_5, w0_6, w0_7, w0_8, w0_9, w0_10, w0_11, w0_12])), (a1, .inl (cI, 99, .inl f1))] s.heap := hP
  generalize hHe : s.heap = H at hP ⊢
  have hS : va_S A s.heap H [] := by rw [hHe]; exact va_S.rf
  have hl := lv_entry ([.ref a0, .int u1, .int u2]) (n := 3) (Nat.le_of_ble_eq_true rfl)
  rw [lg_entry_eq]
  generalize (lg_sl ([.ref a0, .int u1, .int u2]) ++ List.replicate (3 - (lg_sl ([.ref a0, .int u1, .int u2])).length) Slot.unset).toArray = ls at hl ⊢
  have hl : lv_has ls 3 [(0, .ref a0), (1, .int u1), (2, .int u2)] := hl
  unfold s_X5_strength at hsp
  refine lv_bipush (v := 100) hx hb dX5_strength_0 (by decide) ?_
  refine lv_aload_n hx hb dX5_strength_2 rfl (lv_at hl 0 rfl) ?_
  refine va_get (D := D) (ci := 5) (v := .ref a1) (C := RX5) (T := TX5) (N := 13) hx hb hts hi_X5 hown hK hP 0 rfl rfl 0 (by decide) hf_7 (fun _ h9 => h9) rfl dX5_strength_3 ?_
  refine lv_iload_n hx hb dX5_strength_6 rfl (lv_at hl 1 rfl) ?_
  refine lv_iload_n hx hb dX5_strength_7 rfl (lv_at hl 2 rfl) ?_
  refine lv_iadd hx hb dX5_strength_8 ?_
  obtain ⟨x1, ex1, hnx1, hsp⟩ := ldE hsp
  refine r_iald hx hb hK hP 1 0 rfl rfl ex1 hnx1 dX5_strength_9 ?_
  refine lv_imul hx hb dX5_strength_10 ?_
  refine lv_aload_n hx hb dX5_strength_11 rfl (lv_at hl 0 rfl) ?_
  refine lv_iload_n hx hb dX5_strength_12 rfl (lv_at hl 1 rfl) ?_
  obtain ⟨r2, hcr2, hsp⟩ := clE hsp
  refine call_i (w1 := [(a0, .inr (5, [.ref a1, w0_1, w0_2, w0_3, w0_4, w0_5, w0_6, w0_7, w0_8, w0_9, w0_10, w0_11, w0_12])), (a1, .inl (cI, 99, .inl f1))]) (ws' := [(a0, .inr (5, [.ref a1, w0_1, w0_2, w0_3, w0_4, w0_5, w0_6, w0_7, w0_8, w0_9, w0_10, w0_11, w0_12])), (a1, .inl (cI, 99, .inl f1))]) (va_runV (As := [.int u1]) (rest := [.int (100 * x1)]) ⟨hx, hb, hml, hown, hts⟩ (k_X5_drops l D cI cZ cC cS H.size a0 a1 (w0_1) (w0_2) (w0_3) (w0_4) (w0_5) (w0_6) (w0_7) (w0_8) (w0_9) (w0_10) (w0_11) (w0_12) f1 u1 r2 hcr2) (cwV 1 hts gX5_strength_X5_drops rfl rfl rfl nd_X5_drops ⟨Nat.le_of_ble_eq_true rfl, Nat.le_of_ble_eq_true rfl⟩) (PB.preV (ci := 5) (q0 := 0) hKU hP hD [0, 1] rfl rfl rfl rfl) rfl rfl hl.1 rfl (lv_room (Nat.le_of_ble_eq_true rfl)) dX5_strength_13 ⟨Nat.zero_le _, Nat.zero_le _⟩) hS hP hD hA [0, 1] rfl rfl (by first | (simp only [wset, List.set_cons_zero, List.set_cons_succ]; done) | rfl) rfl (fun H locs hP hD hS => ?_)
  obtain ⟨x3, ex3, hnx3, hsp⟩ := dvE hsp
  refine lv_idiv hx hb dX5_strength_16 hnx3 ?_
  refine r_top ex3 ?_
  have hres := Option.some.inj hsp
  subst hres
  exact W.iret (v := x3) hx hb hr (fun t ht hW => ⟨⟨x3, (), rfl, rfl, P_at ht hP⟩, hS.F ht⟩) hS.2.2 dX5_strength_17

theorem nd_X5_looksAt : yX5_looksAt.cls = RX5 ∧ yX5_looksAt.cls ≠ "java/lang/invoke/MethodHandle" ∧ yX5_looksAt.cls ≠ "java/lang/invoke/VarHandle" ∧ (parseMethodDescriptor yX5_looksAt.desc).map (fun d => d.parameters.length) = some 1 := by decide +kernel
set_option maxHeartbeats 8000000 in
set_option maxRecDepth 100000 in
theorem k_X5_looksAt (l : Launch) (D : va_G) (cI cZ cC cS : ClassId) (sz : Nat) (a0 a1 a7 : Nat) (w0_1 : Value) (w0_2 : Value) (w0_3 : Value) (w0_4 : Value) (w0_5 : Value) (w0_7 : Value) (w0_8 : Value) (w0_9 : Value) (w0_10 : Value) (w0_11 : Value) (w0_12 : Value) (f1 : Nat → Int32) (f7 : Nat → Int32) (u1 : Int32) (res : (Nat → Int32)) (hsp : s_X5_looksAt f1 f7 u1 = some res) : Met l yX5_looksAt wsX5_looksAt ({ frames := 2, cells := 0, slots := 0, locals := 43 }) (va_Pc [.ref a0, .int u1] (PB D cI cZ cC cS [(a0, .inr (5, [.ref a1, w0_1, w0_2, w0_3, w0_4, w0_5, .ref a7, w0_7, w0_8, w0_9, w0_10, w0_11, w0_12])), (a1, .inl (cI, 99, .inl f1)), (a7, .inl (cI, 3, .inl f7))] sz)) (va_Qv (fun (_ : Unit) => True) (fun _ t => va_P D vwCl [(a0, .inr (5, [.ref a1, w0_1, w0_2, w0_3, w0_4, w0_5, .ref a7, w0_7, w0_8, w0_9, w0_10, w0_11, w0_12])), (a1, .inl (cI, 99, .inl f1)), (a7, .inl (cI, 3, .inl res))] t.heap) (va_A [(a0, .inr (5, [.ref a1, w0_1, w0_2, w0_3, w0_4, w0_5, .ref a7, w0_7, w0_8, w0_9, w0_10, w0_11, w0_12])), (a1, .inl (cI, 99, .inl f1)), (a7, .inl (cI, 3, .inl f7))] sz)) 0 0 (va_A [(a0, .inr (5, [.ref a1, w0_1, w0_2, w0_3, w0_4, w0_5, .ref a7, w0_7, w0_8, w0_9, w0_10, w0_11, w0_12])), (a1, .inl (cI, 99, .inl f1)), (a7, .inl (cI, 3, .inl f7))] sz) := by
  refine Met.ofW (cc := cX5_looksAt) (maxL := 3) (ret := none) (by decide) rfl ?_
  intro p e s m args below meth c s₁ B hml hv
  obtain ⟨rfl, hsz, hP, hD0, hKU⟩ := hv
  have hx := B.exec
  have hb := B.bytes
  have hr := B.returns
  have hts := atoms_spec (ws := wsX5_looksAt) B.pre
  have hown : s.vm.findClass RX5 = some m.cls := findClass_of_methodNamed B.named
  have hlocks := B.notSynchronized
  have hK := hKU.1
  have hf_29 := hts (.fieldLink RX5 29 "ThinnedPotsModel" "shade" "[I") (by decide +kernel)
  have hi_X5 : ∀ w ∈ u_ws RX5 TX5 13, w ∈ wsX5_looksAt := by decide +kernel
  subst hsz
  have hD := hD0.self (sz := s.heap.size)
  generalize hAe : va_A [(a0, .inr (5, [.ref a1, w0_1, w0_2, w0_3, w0_4, w0_5, .ref a7, w0_7, w0_8, w0_9, w0_10, w0_11, w0_12])), (a1, .inl (cI, 99, .inl f1)), (a7, .inl (cI, 3, .inl f7))] s.heap.size = A at hD ⊢
  have hA : ∀ q : Nat, s.heap.size ≤ q → A q := fun q h => by rw [← hAe]; exact Or.inr h
  have hP : va_P D vwCl [(a0, .inr (5, [.ref a1, w0_1, w0_2, w0_3, w0_4, w0_5, .ref a7, w0_7, w0_8, w0_9, w0_10, w0_11, w0_12])), (a1, .inl (cI, 99, .inl f1)), (a7, .inl (cI, 3, .inl f7))] s.heap := hP
  generalize hHe : s.heap = H at hP ⊢
  have hS : va_S A s.heap H [] := by rw [hHe]; exact va_S.rf
  have hl := lv_entry ([.ref a0, .int u1]) (n := 3) (Nat.le_of_ble_eq_true rfl)
  rw [lg_entry_eq]
  generalize (lg_sl ([.ref a0, .int u1]) ++ List.replicate (3 - (lg_sl ([.ref a0, .int u1])).length) Slot.unset).toArray = ls at hl ⊢
  have hl : lv_has ls 3 [(0, .ref a0), (1, .int u1)] := hl
  unfold s_X5_looksAt at hsp
  refine lv_iconst (v := 0) hx hb dX5_looksAt_0 (by decide) ?_
  refine lv_istore_n (lv' := [(2, .int 0), (0, .ref a0), (1, .int u1)]) hx hb dX5_looksAt_1 rfl hl (by decide) rfl (fun ls hl => ?_)
  refine ex_rule (D := D) (K := s_X5_looksAt_X1) (P := fun (t1 : (Nat → Int32)) => [(a0, .inr (5, [.ref a1, w0_1, w0_2, w0_3, w0_4, w0_5, .ref a7, w0_7, w0_8, w0_9, w0_10, w0_11, w0_12])), (a1, .inl (cI, 99, .inl f1)), (a7, .inl (cI, 3, .inl t1))]) (L := fun (t1 : (Nat → Int32)) => []) (nL := 3) (pcx := 25) (res := res) (A := A) (H0 := s.heap) ?_ (fun hx1 => ?_)
  · intro t1 H locs hsp hP hD hS ls hl
    obtain ⟨y3, rfl⟩ : ∃ z, z = t1 := ⟨_, rfl⟩
    unfold s_X5_looksAt_X1 at hsp; try dsimp only at hsp
    have hP : va_P D vwCl [(a0, .inr (5, [.ref a1, w0_1, w0_2, w0_3, w0_4, w0_5, .ref a7, w0_7, w0_8, w0_9, w0_10, w0_11, w0_12])), (a1, .inl (cI, 99, .inl f1)), (a7, .inl (cI, 3, .inl y3))] H := hP
    have hD : va_D A [(a0, .inr (5, [.ref a1, w0_1, w0_2, w0_3, w0_4, w0_5, .ref a7, w0_7, w0_8, w0_9, w0_10, w0_11, w0_12])), (a1, .inl (cI, 99, .inl f1)), (a7, .inl (cI, 3, .inl y3))] := hD
    have hl : lv_has ls 3 [] := hl
    have hres := Option.some.inj hsp
    subst hres
    exact W.vret hx hb hr (fun t ht hW => ⟨⟨(), rfl, trivial, P_at ht hP⟩, hS.F ht⟩) hS.2.2 dX5_looksAt_25
  have hl := lv_sub hl (l' := [(0, .ref a0), (1, .int u1), (2, .int 0)]) [1, 2, 0] rfl
  refine lp_rule (D := D) (F := s_X5_looksAt_L1 f1 u1 (s_X5_looksAt_X1)) (P := fun (tv : Int32 × (Nat → Int32)) => [(a0, .inr (5, [.ref a1, w0_1, w0_2, w0_3, w0_4, w0_5, .ref a7, w0_7, w0_8, w0_9, w0_10, w0_11, w0_12])), (a1, .inl (cI, 99, .inl f1)), (a7, .inl (cI, 3, .inl tv.2))]) (L := fun (tv : Int32 × (Nat → Int32)) => [(0, .ref a0), (1, .int u1), (2, .int tv.1)]) (nL := 3) (res := res) (A := A) (H0 := s.heap) (fun _ => rfl) ?_ 1000 (0, f7) _ _ hsp hP hD hS _ hl
  · intro n1 ih1 tv H locs hsp hP hD hS ls hl
    obtain ⟨x1, y2⟩ := tv
    have hsp : s_X5_looksAt_B1  f1 u1 (s_X5_looksAt_X1) (s_X5_looksAt_L1 f1 u1 (s_X5_looksAt_X1) n1) x1 y2 = some res := hsp
    unfold s_X5_looksAt_B1 at hsp
    have hP : va_P D vwCl [(a0, .inr (5, [.ref a1, w0_1, w0_2, w0_3, w0_4, w0_5, .ref a7, w0_7, w0_8, w0_9, w0_10, w0_11, w0_12])), (a1, .inl (cI, 99, .inl f1)), (a7, .inl (cI, 3, .inl y2))] H := hP
    have hD : va_D A [(a0, .inr (5, [.ref a1, w0_1, w0_2, w0_3, w0_4, w0_5, .ref a7, w0_7, w0_8, w0_9, w0_10, w0_11, w0_12])), (a1, .inl (cI, 99, .inl f1)), (a7, .inl (cI, 3, .inl y2))] := hD
    have hl : lv_has ls 3 [(0, .ref a0), (1, .int u1), (2, .int x1)] := hl
    refine lv_iload_n hx hb dX5_looksAt_2 rfl (lv_at hl 2 rfl) ?_
    refine lv_iconst (v := 3) hx hb dX5_looksAt_3 (by decide) ?_
    refine lv_icmp_ge (tgt := 25) hx hb dX5_looksAt_4 (by decide) (fun c4 => ?_) (fun c4 => ?_)
    · have hsp := itT hsp c4
      exact hx1 y2 _ _ hsp hP hD hS _ (lv_sub hl [] rfl)
    have hsp := itF hsp c4
    refine lv_aload_n hx hb dX5_looksAt_7 rfl (lv_at hl 0 rfl) ?_
    refine va_get (D := D) (ci := 5) (v := .ref a7) (C := RX5) (T := TX5) (N := 13) hx hb hts hi_X5 hown hK hP 0 rfl rfl 6 (by decide) hf_29 (fun _ h9 => h9) rfl dX5_looksAt_8 ?_
    refine lv_iload_n hx hb dX5_looksAt_11 rfl (lv_at hl 2 rfl) ?_
    refine lv_aload_n hx hb dX5_looksAt_12 rfl (lv_at hl 0 rfl) ?_
    refine lv_iload_n hx hb dX5_looksAt_13 rfl (lv_at hl 1 rfl) ?_
    refine lv_iload_n hx hb dX5_looksAt_14 rfl (lv_at hl 2 rfl) ?_
    obtain ⟨r5, hcr5, hsp⟩ := clE hsp
    refine call_i (w1 := [(a0, .inr (5, [.ref a1, w0_1, w0_2, w0_3, w0_4, w0_5, .ref a7, w0_7, w0_8, w0_9, w0_10, w0_11, w0_12])), (a1, .inl (cI, 99, .inl f1))]) (ws' := [(a0, .inr (5, [.ref a1, w0_1, w0_2, w0_3, w0_4, w0_5, .ref a7, w0_7, w0_8, w0_9, w0_10, w0_11, w0_12])), (a1, .inl (cI, 99, .inl f1)), (a7, .inl (cI, 3, .inl y2))]) (va_runV (As := [.int u1, .int x1]) (rest := [.int x1, .ref a7]) ⟨hx, hb, hml, hown, hts⟩ (k_X5_strength l D cI cZ cC cS H.size a0 a1 (w0_1) (w0_2) (w0_3) (w0_4) (w0_5) (.ref a7) (w0_7) (w0_8) (w0_9) (w0_10) (w0_11) (w0_12) f1 u1 x1 r5 hcr5) (cwV 2 hts gX5_looksAt_X5_strength rfl rfl rfl nd_X5_strength ⟨Nat.le_of_ble_eq_true rfl, Nat.le_of_ble_eq_true rfl⟩) (PB.preV (ci := 5) (q0 := 0) hKU hP hD [0, 1] rfl rfl rfl rfl) rfl rfl hl.1 rfl (lv_room (Nat.le_of_ble_eq_true rfl)) dX5_looksAt_15 ⟨Nat.zero_le _, Nat.zero_le _⟩) hS hP hD hA [0, 1] rfl rfl (by first | (simp only [wset, List.set_cons_zero, List.set_cons_succ]; done) | rfl) rfl (fun H locs hP hD hS => ?_)
    obtain ⟨y6, ey6, hny6, hsp⟩ := stoE hsp
    refine r_iast (ws' := [(a0, .inr (5, [.ref a1, w0_1, w0_2, w0_3, w0_4, w0_5, .ref a7, w0_7, w0_8, w0_9, w0_10, w0_11, w0_12])), (a1, .inl (cI, 99, .inl f1)), (a7, .inl (cI, 3, .inl y6))]) hx hb hK hP hD hS 2 0 rfl rfl ey6 hny6 rfl dX5_looksAt_18 (fun H locs hP hD hS => ?_)
    obtain ⟨x7, ex7, hsp⟩ := nmE hsp
    refine lv_iinc (k := 2) (v := x7) (lv' := [(2, .int x7), (0, .ref a0), (1, .int u1)]) hx hb dX5_looksAt_19 hl rfl (by rw [ex7]; rfl) (by decide) rfl (fun ls hl => ?_)
    refine lv_goto (tgt := 2) hx hb dX5_looksAt_22 (by decide) ?_
    exact ih1 (x7, y6) _ _ hsp hP hD hS _ (lv_sub hl [1, 2, 0] rfl)

theorem nd_X5_distanceOf : yX5_distanceOf.cls = RX5 ∧ yX5_distanceOf.cls ≠ "java/lang/invoke/MethodHandle" ∧ yX5_distanceOf.cls ≠ "java/lang/invoke/VarHandle" ∧ (parseMethodDescriptor yX5_distanceOf.desc).map (fun d => d.parameters.length) = some 2 := by decide +kernel
set_option maxHeartbeats 8000000 in
set_option maxRecDepth 100000 in
theorem k_X5_distanceOf (l : Launch) (D : va_G) (cI cZ cC cS : ClassId) (sz : Nat) (a0 a1 a7 : Nat) (w0_1 : Value) (w0_2 : Value) (w0_3 : Value) (w0_4 : Value) (w0_5 : Value) (w0_7 : Value) (w0_8 : Value) (w0_9 : Value) (w0_10 : Value) (w0_11 : Value) (w0_12 : Value) (f1 : Nat → Int32) (f7 : Nat → Int32) (u1 : Int32) (u2 : Int32) (res : Int32 × (Nat → Int32)) (hsp : s_X5_distanceOf f1 f7 u1 u2 = some res) : Met l yX5_distanceOf wsX5_distanceOf ({ frames := 3, cells := 0, slots := 0, locals := 65 }) (va_Pc [.ref a0, .int u1, .int u2] (PB D cI cZ cC cS [(a0, .inr (5, [.ref a1, w0_1, w0_2, w0_3, w0_4, w0_5, .ref a7, w0_7, w0_8, w0_9, w0_10, w0_11, w0_12])), (a1, .inl (cI, 99, .inl f1)), (a7, .inl (cI, 3, .inl f7))] sz)) (va_Qi (fun r (_ : Unit) => r = res.1) (fun _ t => va_P D vwCl [(a0, .inr (5, [.ref a1, w0_1, w0_2, w0_3, w0_4, w0_5, .ref a7, w0_7, w0_8, w0_9, w0_10, w0_11, w0_12])), (a1, .inl (cI, 99, .inl f1)), (a7, .inl (cI, 3, .inl res.2))] t.heap) (va_A [(a0, .inr (5, [.ref a1, w0_1, w0_2, w0_3, w0_4, w0_5, .ref a7, w0_7, w0_8, w0_9, w0_10, w0_11, w0_12])), (a1, .inl (cI, 99, .inl f1)), (a7, .inl (cI, 3, .inl f7))] sz)) 0 0 (va_A [(a0, .inr (5, [.ref a1, w0_1, w0_2, w0_3, w0_4, w0_5, .ref a7, w0_7, w0_8, w0_9, w0_10, w0_11, w0_12])), (a1, .inl (cI, 99, .inl f1)), (a7, .inl (cI, 3, .inl f7))] sz) := by
  refine Met.ofW (cc := cX5_distanceOf) (maxL := 3) (ret := (some .int)) (by decide) rfl ?_
  intro p e s m args below meth c s₁ B hml hv
  obtain ⟨rfl, hsz, hP, hD0, hKU⟩ := hv
  have hx := B.exec
  have hb := B.bytes
  have hr := B.returns
  have hts := atoms_spec (ws := wsX5_distanceOf) B.pre
  have hown : s.vm.findClass RX5 = some m.cls := findClass_of_methodNamed B.named
  have hlocks := B.notSynchronized
  have hK := hKU.1
  subst hsz
  have hD := hD0.self (sz := s.heap.size)
  generalize hAe : va_A [(a0, .inr (5, [.ref a1, w0_1, w0_2, w0_3, w0_4, w0_5, .ref a7, w0_7, w0_8, w0_9, w0_10, w0_11, w0_12])), (a1, .inl (cI, 99, .inl f1)), (a7, .inl (cI, 3, .inl f7))] s.heap.size = A at hD ⊢
  have hA : ∀ q : Nat, s.heap.size ≤ q → A q := fun q h => by rw [← hAe]; exact Or.inr h
  have hP : va_P D vwCl [(a0, .inr (5, [.ref a1, w0_1, w0_2, w0_3, w0_4, w0_5, .ref a7, w0_7, w0_8, w0_9, w0_10, w0_11, w0_12])), (a1, .inl (cI, 99, .inl f1)), (a7, .inl (cI, 3, .inl f7))] s.heap := hP
  generalize hHe : s.heap = H at hP ⊢
  have hS : va_S A s.heap H [] := by rw [hHe]; exact va_S.rf
  have hl := lv_entry ([.ref a0, .int u1, .int u2]) (n := 3) (Nat.le_of_ble_eq_true rfl)
  rw [lg_entry_eq]
  generalize (lg_sl ([.ref a0, .int u1, .int u2]) ++ List.replicate (3 - (lg_sl ([.ref a0, .int u1, .int u2])).length) Slot.unset).toArray = ls at hl ⊢
  have hl : lv_has ls 3 [(0, .ref a0), (1, .int u1), (2, .int u2)] := hl
  unfold s_X5_distanceOf at hsp
  refine lv_aload_n hx hb dX5_distanceOf_0 rfl (lv_at hl 0 rfl) ?_
  refine lv_iload_n hx hb dX5_distanceOf_1 rfl (lv_at hl 1 rfl) ?_
  obtain ⟨r1, hcr1, hsp⟩ := clE hsp
  refine call_i (w1 := []) (ws' := [(a0, .inr (5, [.ref a1, w0_1, w0_2, w0_3, w0_4, w0_5, .ref a7, w0_7, w0_8, w0_9, w0_10, w0_11, w0_12])), (a1, .inl (cI, 99, .inl f1)), (a7, .inl (cI, 3, .inl f7))]) (va_runS (As := [.int u1]) (rest := [.ref a0]) ⟨hx, hb, hml, hown, hts⟩ (k_X5_p l D cI cZ cC cS H.size u1 r1 hcr1) (va_cwS 1 hts gX5_distanceOf_X5_p rfl rfl rfl nd_X5_p.2 ⟨Nat.le_of_ble_eq_true rfl, Nat.le_of_ble_eq_true rfl⟩) (PB.preS hKU hP hD [] rfl rfl) rfl rfl hl.1 rfl (lv_room (Nat.le_of_ble_eq_true rfl)) dX5_distanceOf_2 ⟨Nat.zero_le _, Nat.zero_le _⟩) hS hP hD hA [] rfl rfl (by first | (simp only [wset, List.set_cons_zero, List.set_cons_succ]; done) | rfl) rfl (fun H locs hP hD hS => ?_)
  obtain ⟨r2, hcr2, hsp⟩ := clE hsp
  refine call_v (w1 := [(a0, .inr (5, [.ref a1, w0_1, w0_2, w0_3, w0_4, w0_5, .ref a7, w0_7, w0_8, w0_9, w0_10, w0_11, w0_12])), (a1, .inl (cI, 99, .inl f1)), (a7, .inl (cI, 3, .inl r2))]) (ws' := [(a0, .inr (5, [.ref a1, w0_1, w0_2, w0_3, w0_4, w0_5, .ref a7, w0_7, w0_8, w0_9, w0_10, w0_11, w0_12])), (a1, .inl (cI, 99, .inl f1)), (a7, .inl (cI, 3, .inl r2))]) (va_runV (As := [.int r1]) (rest := []) ⟨hx, hb, hml, hown, hts⟩ (k_X5_looksAt l D cI cZ cC cS H.size a0 a1 a7 (w0_1) (w0_2) (w0_3) (w0_4) (w0_5) (w0_7) (w0_8) (w0_9) (w0_10) (w0_11) (w0_12) f1 f7 r1 r2 hcr2) (cwV 1 hts gX5_distanceOf_X5_looksAt rfl rfl rfl nd_X5_looksAt ⟨Nat.le_of_ble_eq_true rfl, Nat.le_of_ble_eq_true rfl⟩) (PB.preV (ci := 5) (q0 := 0) hKU hP hD [0, 1, 2] rfl rfl rfl rfl) rfl rfl hl.1 rfl (lv_room (Nat.le_of_ble_eq_true rfl)) dX5_distanceOf_5 ⟨Nat.zero_le _, Nat.zero_le _⟩) hS hP hD hA [0, 1, 2] rfl rfl (by first | (simp only [wset, List.set_cons_zero, List.set_cons_succ]; done) | rfl) rfl (fun H locs hP hD hS => ?_)
  refine lv_aload_n hx hb dX5_distanceOf_8 rfl (lv_at hl 0 rfl) ?_
  refine lv_iload_n hx hb dX5_distanceOf_9 rfl (lv_at hl 2 rfl) ?_
  obtain ⟨r3, hcr3, hsp⟩ := clE hsp
  refine call_i (w1 := [(a0, .inr (5, [.ref a1, w0_1, w0_2, w0_3, w0_4, w0_5, .ref a7, w0_7, w0_8, w0_9, w0_10, w0_11, w0_12])), (a1, .inl (cI, 99, .inl f1)), (a7, .inl (cI, 3, .inl r2))]) (ws' := [(a0, .inr (5, [.ref a1, w0_1, w0_2, w0_3, w0_4, w0_5, .ref a7, w0_7, w0_8, w0_9, w0_10, w0_11, w0_12])), (a1, .inl (cI, 99, .inl f1)), (a7, .inl (cI, 3, .inl r2))]) (va_runV (As := [.int u2]) (rest := []) ⟨hx, hb, hml, hown, hts⟩ (k_X5_distance l D cI cZ cC cS H.size a0 a1 a7 (w0_1) (w0_2) (w0_3) (w0_4) (w0_5) (w0_7) (w0_8) (w0_9) (w0_10) (w0_11) (w0_12) f1 r2 u2 r3 hcr3) (cwV 1 hts gX5_distanceOf_X5_distance rfl rfl rfl nd_X5_distance ⟨Nat.le_of_ble_eq_true rfl, Nat.le_of_ble_eq_true rfl⟩) (PB.preV (ci := 5) (q0 := 0) hKU hP hD [0, 1, 2] rfl rfl rfl rfl) rfl rfl hl.1 rfl (lv_room (Nat.le_of_ble_eq_true rfl)) dX5_distanceOf_10 ⟨Nat.zero_le _, Nat.zero_le _⟩) hS hP hD hA [0, 1, 2] rfl rfl (by first | (simp only [wset, List.set_cons_zero, List.set_cons_succ]; done) | rfl) rfl (fun H locs hP hD hS => ?_)
  have hres := Option.some.inj hsp
  subst hres
  exact W.iret (v := r3) hx hb hr (fun t ht hW => ⟨⟨r3, (), rfl, rfl, P_at ht hP⟩, hS.F ht⟩) hS.2.2 dX5_distanceOf_13

theorem nd_X5_nearestPot : yX5_nearestPot.cls = RX5 ∧ yX5_nearestPot.cls ≠ "java/lang/invoke/MethodHandle" ∧ yX5_nearestPot.cls ≠ "java/lang/invoke/VarHandle" ∧ (parseMethodDescriptor yX5_nearestPot.desc).map (fun d => d.parameters.length) = some 1 := by decide +kernel
set_option maxHeartbeats 8000000 in
set_option maxRecDepth 100000 in
theorem k_X5_nearestPot (l : Launch) (D : va_G) (cI cZ cC cS : ClassId) (sz : Nat) (a0 a1 a7 : Nat) (w0_1 : Value) (w0_2 : Value) (w0_3 : Value) (w0_4 : Value) (w0_5 : Value) (w0_7 : Value) (w0_8 : Value) (w0_9 : Value) (w0_10 : Value) (w0_11 : Value) (w0_12 : Value) (f1 : Nat → Int32) (f7 : Nat → Int32) (u1 : Int32) (res : Int32 × (Nat → Int32)) (hsp : s_X5_nearestPot f1 f7 u1 = some res) : Met l yX5_nearestPot wsX5_nearestPot ({ frames := 4, cells := 0, slots := 0, locals := 87 }) (va_Pc [.ref a0, .int u1] (PB D cI cZ cC cS [(a0, .inr (5, [.ref a1, w0_1, w0_2, w0_3, w0_4, w0_5, .ref a7, w0_7, w0_8, w0_9, w0_10, w0_11, w0_12])), (a1, .inl (cI, 99, .inl f1)), (a7, .inl (cI, 3, .inl f7))] sz)) (va_Qi (fun r (_ : Unit) => r = res.1) (fun _ t => va_P D vwCl [(a0, .inr (5, [.ref a1, w0_1, w0_2, w0_3, w0_4, w0_5, .ref a7, w0_7, w0_8, w0_9, w0_10, w0_11, w0_12])), (a1, .inl (cI, 99, .inl f1)), (a7, .inl (cI, 3, .inl res.2))] t.heap) (va_A [(a0, .inr (5, [.ref a1, w0_1, w0_2, w0_3, w0_4, w0_5, .ref a7, w0_7, w0_8, w0_9, w0_10, w0_11, w0_12])), (a1, .inl (cI, 99, .inl f1)), (a7, .inl (cI, 3, .inl f7))] sz)) 0 0 (va_A [(a0, .inr (5, [.ref a1, w0_1, w0_2, w0_3, w0_4, w0_5, .ref a7, w0_7, w0_8, w0_9, w0_10, w0_11, w0_12])), (a1, .inl (cI, 99, .inl f1)), (a7, .inl (cI, 3, .inl f7))] sz) := by
  refine Met.ofW (cc := cX5_nearestPot) (maxL := 6) (ret := (some .int)) (by decide) rfl ?_
  intro p e s m args below meth c s₁ B hml hv
  obtain ⟨rfl, hsz, hP, hD0, hKU⟩ := hv
  have hx := B.exec
  have hb := B.bytes
  have hr := B.returns
  have hts := atoms_spec (ws := wsX5_nearestPot) B.pre
  have hown : s.vm.findClass RX5 = some m.cls := findClass_of_methodNamed B.named
  have hlocks := B.notSynchronized
  have hK := hKU.1
  subst hsz
  have hD := hD0.self (sz := s.heap.size)
  generalize hAe : va_A [(a0, .inr (5, [.ref a1, w0_1, w0_2, w0_3, w0_4, w0_5, .ref a7, w0_7, w0_8, w0_9, w0_10, w0_11, w0_12])), (a1, .inl (cI, 99, .inl f1)), (a7, .inl (cI, 3, .inl f7))] s.heap.size = A at hD ⊢
  have hA : ∀ q : Nat, s.heap.size ≤ q → A q := fun q h => by rw [← hAe]; exact Or.inr h
  have hP : va_P D vwCl [(a0, .inr (5, [.ref a1, w0_1, w0_2, w0_3, w0_4, w0_5, .ref a7, w0_7, w0_8, w0_9, w0_10, w0_11, w0_12])), (a1, .inl (cI, 99, .inl f1)), (a7, .inl (cI, 3, .inl f7))] s.heap := hP
  generalize hHe : s.heap = H at hP ⊢
  have hS : va_S A s.heap H [] := by rw [hHe]; exact va_S.rf
  have hl := lv_entry ([.ref a0, .int u1]) (n := 6) (Nat.le_of_ble_eq_true rfl)
  rw [lg_entry_eq]
  generalize (lg_sl ([.ref a0, .int u1]) ++ List.replicate (6 - (lg_sl ([.ref a0, .int u1])).length) Slot.unset).toArray = ls at hl ⊢
  have hl : lv_has ls 6 [(0, .ref a0), (1, .int u1)] := hl
  unfold s_X5_nearestPot at hsp
  refine lv_bipush (v := (-6)) hx hb dX5_nearestPot_0 (by decide) ?_
  refine lv_istore_n (lv' := [(2, .int (-6)), (0, .ref a0), (1, .int u1)]) hx hb dX5_nearestPot_2 rfl hl (by decide) rfl (fun ls hl => ?_)
  refine lv_sipush (v := 1000) hx hb dX5_nearestPot_3 (by decide) ?_
  refine lv_istore_n (lv' := [(3, .int 1000), (2, .int (-6)), (0, .ref a0), (1, .int u1)]) hx hb dX5_nearestPot_6 rfl hl (by decide) rfl (fun ls hl => ?_)
  refine lv_iconst (v := 0) hx hb dX5_nearestPot_7 (by decide) ?_
  refine lv_istore (lv' := [(4, .int 0), (3, .int 1000), (2, .int (-6)), (0, .ref a0), (1, .int u1)]) hx hb dX5_nearestPot_8 hl (by decide) rfl (fun ls hl => ?_)
  refine ex_rule (D := D) (K := s_X5_nearestPot_X1) (P := fun (t1 : Int32 × (Nat → Int32)) => [(a0, .inr (5, [.ref a1, w0_1, w0_2, w0_3, w0_4, w0_5, .ref a7, w0_7, w0_8, w0_9, w0_10, w0_11, w0_12])), (a1, .inl (cI, 99, .inl f1)), (a7, .inl (cI, 3, .inl t1.2))]) (L := fun (t1 : Int32 × (Nat → Int32)) => [(2, .int t1.1)]) (nL := 6) (pcx := 76) (res := res) (A := A) (H0 := s.heap) ?_ (fun hx1 => ?_)
  · intro t1 H locs hsp hP hD hS ls hl
    obtain ⟨x5, y6⟩ := t1
    unfold s_X5_nearestPot_X1 at hsp; try dsimp only at hsp
    have hP : va_P D vwCl [(a0, .inr (5, [.ref a1, w0_1, w0_2, w0_3, w0_4, w0_5, .ref a7, w0_7, w0_8, w0_9, w0_10, w0_11, w0_12])), (a1, .inl (cI, 99, .inl f1)), (a7, .inl (cI, 3, .inl y6))] H := hP
    have hD : va_D A [(a0, .inr (5, [.ref a1, w0_1, w0_2, w0_3, w0_4, w0_5, .ref a7, w0_7, w0_8, w0_9, w0_10, w0_11, w0_12])), (a1, .inl (cI, 99, .inl f1)), (a7, .inl (cI, 3, .inl y6))] := hD
    have hl : lv_has ls 6 [(2, .int x5)] := hl
    refine lv_iload_n hx hb dX5_nearestPot_76 rfl (lv_at hl 0 rfl) ?_
    have hres := Option.some.inj hsp
    subst hres
    exact W.iret (v := x5) hx hb hr (fun t ht hW => ⟨⟨x5, (), rfl, rfl, P_at ht hP⟩, hS.F ht⟩) hS.2.2 dX5_nearestPot_77
  have hl := lv_sub hl (l' := [(0, .ref a0), (1, .int u1), (2, .int (-6)), (3, .int 1000), (4, .int 0)]) [3, 4, 2, 1, 0] rfl
  refine lp_rule (D := D) (F := s_X5_nearestPot_L1 f1 u1 (s_X5_nearestPot_X1)) (P := fun (tv : Int32 × Int32 × Int32 × (Nat → Int32)) => [(a0, .inr (5, [.ref a1, w0_1, w0_2, w0_3, w0_4, w0_5, .ref a7, w0_7, w0_8, w0_9, w0_10, w0_11, w0_12])), (a1, .inl (cI, 99, .inl f1)), (a7, .inl (cI, 3, .inl tv.2.2.2))]) (L := fun (tv : Int32 × Int32 × Int32 × (Nat → Int32)) => [(0, .ref a0), (1, .int u1), (2, .int tv.1), (3, .int tv.2.1), (4, .int tv.2.2.1)]) (nL := 6) (res := res) (A := A) (H0 := s.heap) (fun _ => rfl) ?_ 1000 ((-6), 1000, 0, f7) _ _ hsp hP hD hS _ hl
  · intro n1 ih1 tv H locs hsp hP hD hS ls hl
    obtain ⟨x1, x2, x3, y4⟩ := tv
    have hsp : s_X5_nearestPot_B1  f1 u1 (s_X5_nearestPot_X1) (s_X5_nearestPot_L1 f1 u1 (s_X5_nearestPot_X1) n1) x1 x2 x3 y4 = some res := hsp
    unfold s_X5_nearestPot_B1 at hsp
    have hP : va_P D vwCl [(a0, .inr (5, [.ref a1, w0_1, w0_2, w0_3, w0_4, w0_5, .ref a7, w0_7, w0_8, w0_9, w0_10, w0_11, w0_12])), (a1, .inl (cI, 99, .inl f1)), (a7, .inl (cI, 3, .inl y4))] H := hP
    have hD : va_D A [(a0, .inr (5, [.ref a1, w0_1, w0_2, w0_3, w0_4, w0_5, .ref a7, w0_7, w0_8, w0_9, w0_10, w0_11, w0_12])), (a1, .inl (cI, 99, .inl f1)), (a7, .inl (cI, 3, .inl y4))] := hD
    have hl : lv_has ls 6 [(0, .ref a0), (1, .int u1), (2, .int x1), (3, .int x2), (4, .int x3)] := hl
    refine lv_iload hx hb dX5_nearestPot_10 (lv_at hl 4 rfl) ?_
    refine lv_bipush (v := 8) hx hb dX5_nearestPot_12 (by decide) ?_
    refine lv_icmp_ge (tgt := 76) hx hb dX5_nearestPot_14 (by decide) (fun c7 => ?_) (fun c7 => ?_)
    · have hsp := itT hsp c7
      exact hx1 (x1, y4) _ _ hsp hP hD hS _ (lv_sub hl [2] rfl)
    have hsp := itF hsp c7
    refine lv_aload_n hx hb dX5_nearestPot_17 rfl (lv_at hl 0 rfl) ?_
    refine lv_iload hx hb dX5_nearestPot_18 (lv_at hl 4 rfl) ?_
    obtain ⟨r8, hcr8, hsp⟩ := clE hsp
    refine call_i (w1 := []) (ws' := [(a0, .inr (5, [.ref a1, w0_1, w0_2, w0_3, w0_4, w0_5, .ref a7, w0_7, w0_8, w0_9, w0_10, w0_11, w0_12])), (a1, .inl (cI, 99, .inl f1)), (a7, .inl (cI, 3, .inl y4))]) (va_runS (As := [.int x3]) (rest := [.ref a0]) ⟨hx, hb, hml, hown, hts⟩ (k_X5_p l D cI cZ cC cS H.size x3 r8 hcr8) (va_cwS 1 hts gX5_nearestPot_X5_p rfl rfl rfl nd_X5_p.2 ⟨Nat.le_of_ble_eq_true rfl, Nat.le_of_ble_eq_true rfl⟩) (PB.preS hKU hP hD [] rfl rfl) rfl rfl hl.1 rfl (lv_room (Nat.le_of_ble_eq_true rfl)) dX5_nearestPot_20 ⟨Nat.zero_le _, Nat.zero_le _⟩) hS hP hD hA [] rfl rfl (by first | (simp only [wset, List.set_cons_zero, List.set_cons_succ]; done) | rfl) rfl (fun H locs hP hD hS => ?_)
    obtain ⟨r9, hcr9, hsp⟩ := clE hsp
    refine call_i (w1 := [(a0, .inr (5, [.ref a1, w0_1, w0_2, w0_3, w0_4, w0_5, .ref a7, w0_7, w0_8, w0_9, w0_10, w0_11, w0_12])), (a1, .inl (cI, 99, .inl f1))]) (ws' := [(a0, .inr (5, [.ref a1, w0_1, w0_2, w0_3, w0_4, w0_5, .ref a7, w0_7, w0_8, w0_9, w0_10, w0_11, w0_12])), (a1, .inl (cI, 99, .inl f1)), (a7, .inl (cI, 3, .inl y4))]) (va_runV (As := [.int r8]) (rest := []) ⟨hx, hb, hml, hown, hts⟩ (k_X5_drops l D cI cZ cC cS H.size a0 a1 (w0_1) (w0_2) (w0_3) (w0_4) (w0_5) (.ref a7) (w0_7) (w0_8) (w0_9) (w0_10) (w0_11) (w0_12) f1 r8 r9 hcr9) (cwV 1 hts gX5_nearestPot_X5_drops rfl rfl rfl nd_X5_drops ⟨Nat.le_of_ble_eq_true rfl, Nat.le_of_ble_eq_true rfl⟩) (PB.preV (ci := 5) (q0 := 0) hKU hP hD [0, 1] rfl rfl rfl rfl) rfl rfl hl.1 rfl (lv_room (Nat.le_of_ble_eq_true rfl)) dX5_nearestPot_23 ⟨Nat.zero_le _, Nat.zero_le _⟩) hS hP hD hA [0, 1] rfl rfl (by first | (simp only [wset, List.set_cons_zero, List.set_cons_succ]; done) | rfl) rfl (fun H locs hP hD hS => ?_)
    refine lv_if_ne (tgt := 35) hx hb dX5_nearestPot_26 (by decide) (fun c10 => ?_) (fun c10 => ?_)
    · have hsp := itF hsp c10
      refine lv_aload_n hx hb dX5_nearestPot_35 rfl (lv_at hl 0 rfl) ?_
      refine lv_iload hx hb dX5_nearestPot_36 (lv_at hl 4 rfl) ?_
      refine lv_iload_n hx hb dX5_nearestPot_38 rfl (lv_at hl 1 rfl) ?_
      obtain ⟨r11, hcr11, hsp⟩ := clE hsp
      refine call_i (w1 := [(a0, .inr (5, [.ref a1, w0_1, w0_2, w0_3, w0_4, w0_5, .ref a7, w0_7, w0_8, w0_9, w0_10, w0_11, w0_12])), (a1, .inl (cI, 99, .inl f1)), (a7, .inl (cI, 3, .inl r11.2))]) (ws' := [(a0, .inr (5, [.ref a1, w0_1, w0_2, w0_3, w0_4, w0_5, .ref a7, w0_7, w0_8, w0_9, w0_10, w0_11, w0_12])), (a1, .inl (cI, 99, .inl f1)), (a7, .inl (cI, 3, .inl r11.2))]) (va_runV (As := [.int x3, .int u1]) (rest := []) ⟨hx, hb, hml, hown, hts⟩ (k_X5_distanceOf l D cI cZ cC cS H.size a0 a1 a7 (w0_1) (w0_2) (w0_3) (w0_4) (w0_5) (w0_7) (w0_8) (w0_9) (w0_10) (w0_11) (w0_12) f1 y4 x3 u1 r11 hcr11) (cwV 2 hts gX5_nearestPot_X5_distanceOf rfl rfl rfl nd_X5_distanceOf ⟨Nat.le_of_ble_eq_true rfl, Nat.le_of_ble_eq_true rfl⟩) (PB.preV (ci := 5) (q0 := 0) hKU hP hD [0, 1, 2] rfl rfl rfl rfl) rfl rfl hl.1 rfl (lv_room (Nat.le_of_ble_eq_true rfl)) dX5_nearestPot_39 ⟨Nat.zero_le _, Nat.zero_le _⟩) hS hP hD hA [0, 1, 2] rfl rfl (by first | (simp only [wset, List.set_cons_zero, List.set_cons_succ]; done) | rfl) rfl (fun H locs hP hD hS => ?_)
      refine lv_istore (lv' := [(5, .int r11.1), (0, .ref a0), (1, .int u1), (2, .int x1), (3, .int x2), (4, .int x3)]) hx hb dX5_nearestPot_42 hl (by decide) rfl (fun ls hl => ?_)
      refine lv_iload hx hb dX5_nearestPot_44 (lv_at hl 0 rfl) ?_
      refine lv_iload_n hx hb dX5_nearestPot_46 rfl (lv_at hl 4 rfl) ?_
      refine lv_icmp_ge (tgt := 55) hx hb dX5_nearestPot_47 (by decide) (fun c12 => ?_) (fun c12 => ?_)
      · have hsp := itT hsp c12
        refine lv_iload_n hx hb dX5_nearestPot_55 rfl (lv_at hl 3 rfl) ?_
        refine lv_istore_n (lv' := [(2, .int x1), (5, .int r11.1), (0, .ref a0), (1, .int u1), (3, .int x2), (4, .int x3)]) hx hb dX5_nearestPot_56 rfl hl (by decide) rfl (fun ls hl => ?_)
        refine lv_iload hx hb dX5_nearestPot_57 (lv_at hl 1 rfl) ?_
        refine lv_iload_n hx hb dX5_nearestPot_59 rfl (lv_at hl 4 rfl) ?_
        refine lv_icmp_ge (tgt := 68) hx hb dX5_nearestPot_60 (by decide) (fun c13 => ?_) (fun c13 => ?_)
        · have hsp := itT hsp c13
          refine lv_iload_n hx hb dX5_nearestPot_68 rfl (lv_at hl 4 rfl) ?_
          refine lv_istore_n (lv' := [(3, .int x2), (2, .int x1), (5, .int r11.1), (0, .ref a0), (1, .int u1), (4, .int x3)]) hx hb dX5_nearestPot_69 rfl hl (by decide) rfl (fun ls hl => ?_)
          obtain ⟨x14, ex14, hsp⟩ := nmE hsp
          refine lv_iinc (k := 5) (v := x14) (lv' := [(4, .int x14), (3, .int x2), (2, .int x1), (5, .int r11.1), (0, .ref a0), (1, .int u1)]) hx hb dX5_nearestPot_70 hl rfl (by rw [ex14]; rfl) (by decide) rfl (fun ls hl => ?_)
          refine lv_goto (tgt := 10) hx hb dX5_nearestPot_73 (by decide) ?_
          exact ih1 (x1, x2, x14, r11.2) _ _ hsp hP hD hS _ (lv_sub hl [4, 5, 2, 1, 0] rfl)
        have hsp := itF hsp c13
        refine lv_iload hx hb dX5_nearestPot_63 (lv_at hl 1 rfl) ?_
        refine lv_goto (tgt := 69) hx hb dX5_nearestPot_65 (by decide) ?_
        refine lv_istore_n (lv' := [(3, .int r11.1), (2, .int x1), (5, .int r11.1), (0, .ref a0), (1, .int u1), (4, .int x3)]) hx hb dX5_nearestPot_69 rfl hl (by decide) rfl (fun ls hl => ?_)
        obtain ⟨x15, ex15, hsp⟩ := nmE hsp
        refine lv_iinc (k := 5) (v := x15) (lv' := [(4, .int x15), (3, .int r11.1), (2, .int x1), (5, .int r11.1), (0, .ref a0), (1, .int u1)]) hx hb dX5_nearestPot_70 hl rfl (by rw [ex15]; rfl) (by decide) rfl (fun ls hl => ?_)
        refine lv_goto (tgt := 10) hx hb dX5_nearestPot_73 (by decide) ?_
        exact ih1 (x1, r11.1, x15, r11.2) _ _ hsp hP hD hS _ (lv_sub hl [4, 5, 2, 1, 0] rfl)
      have hsp := itF hsp c12
      refine lv_iload hx hb dX5_nearestPot_50 (lv_at hl 5 rfl) ?_
      refine lv_goto (tgt := 56) hx hb dX5_nearestPot_52 (by decide) ?_
      refine lv_istore_n (lv' := [(2, .int x3), (5, .int r11.1), (0, .ref a0), (1, .int u1), (3, .int x2), (4, .int x3)]) hx hb dX5_nearestPot_56 rfl hl (by decide) rfl (fun ls hl => ?_)
      refine lv_iload hx hb dX5_nearestPot_57 (lv_at hl 1 rfl) ?_
      refine lv_iload_n hx hb dX5_nearestPot_59 rfl (lv_at hl 4 rfl) ?_
      refine lv_icmp_ge (tgt := 68) hx hb dX5_nearestPot_60 (by decide) (fun c16 => ?_) (fun c16 => ?_)
      · have hsp := itT hsp c16
        refine lv_iload_n hx hb dX5_nearestPot_68 rfl (lv_at hl 4 rfl) ?_
        refine lv_istore_n (lv' := [(3, .int x2), (2, .int x3), (5, .int r11.1), (0, .ref a0), (1, .int u1), (4, .int x3)]) hx hb dX5_nearestPot_69 rfl hl (by decide) rfl (fun ls hl => ?_)
        obtain ⟨x17, ex17, hsp⟩ := nmE hsp
        refine lv_iinc (k := 5) (v := x17) (lv' := [(4, .int x17), (3, .int x2), (2, .int x3), (5, .int r11.1), (0, .ref a0), (1, .int u1)]) hx hb dX5_nearestPot_70 hl rfl (by rw [ex17]; rfl) (by decide) rfl (fun ls hl => ?_)
        refine lv_goto (tgt := 10) hx hb dX5_nearestPot_73 (by decide) ?_
        exact ih1 (x3, x2, x17, r11.2) _ _ hsp hP hD hS _ (lv_sub hl [4, 5, 2, 1, 0] rfl)
      have hsp := itF hsp c16
      refine lv_iload hx hb dX5_nearestPot_63 (lv_at hl 1 rfl) ?_
      refine lv_goto (tgt := 69) hx hb dX5_nearestPot_65 (by decide) ?_
      refine lv_istore_n (lv' := [(3, .int r11.1), (2, .int x3), (5, .int r11.1), (0, .ref a0), (1, .int u1), (4, .int x3)]) hx hb dX5_nearestPot_69 rfl hl (by decide) rfl (fun ls hl => ?_)
      obtain ⟨x18, ex18, hsp⟩ := nmE hsp
      refine lv_iinc (k := 5) (v := x18) (lv' := [(4, .int x18), (3, .int r11.1), (2, .int x3), (5, .int r11.1), (0, .ref a0), (1, .int u1)]) hx hb dX5_nearestPot_70 hl rfl (by rw [ex18]; rfl) (by decide) rfl (fun ls hl => ?_)
      refine lv_goto (tgt := 10) hx hb dX5_nearestPot_73 (by decide) ?_
      exact ih1 (x3, r11.1, x18, r11.2) _ _ hsp hP hD hS _ (lv_sub hl [4, 5, 2, 1, 0] rfl)
    have hsp := itT hsp c10
    refine lv_sipush (v := 1000) hx hb dX5_nearestPot_29 (by decide) ?_
    refine lv_goto (tgt := 42) hx hb dX5_nearestPot_32 (by decide) ?_
    refine lv_istore (lv' := [(5, .int 1000), (0, .ref a0), (1, .int u1), (2, .int x1), (3, .int x2), (4, .int x3)]) hx hb dX5_nearestPot_42 hl (by decide) rfl (fun ls hl => ?_)
    refine lv_iload hx hb dX5_nearestPot_44 (lv_at hl 0 rfl) ?_
    refine lv_iload_n hx hb dX5_nearestPot_46 rfl (lv_at hl 4 rfl) ?_
    refine lv_icmp_ge (tgt := 55) hx hb dX5_nearestPot_47 (by decide) (fun c19 => ?_) (fun c19 => ?_)
    · have hsp := itT hsp c19
      refine lv_iload_n hx hb dX5_nearestPot_55 rfl (lv_at hl 3 rfl) ?_
      refine lv_istore_n (lv' := [(2, .int x1), (5, .int 1000), (0, .ref a0), (1, .int u1), (3, .int x2), (4, .int x3)]) hx hb dX5_nearestPot_56 rfl hl (by decide) rfl (fun ls hl => ?_)
      refine lv_iload hx hb dX5_nearestPot_57 (lv_at hl 1 rfl) ?_
      refine lv_iload_n hx hb dX5_nearestPot_59 rfl (lv_at hl 4 rfl) ?_
      refine lv_icmp_ge (tgt := 68) hx hb dX5_nearestPot_60 (by decide) (fun c20 => ?_) (fun c20 => ?_)
      · have hsp := itT hsp c20
        refine lv_iload_n hx hb dX5_nearestPot_68 rfl (lv_at hl 4 rfl) ?_
        refine lv_istore_n (lv' := [(3, .int x2), (2, .int x1), (5, .int 1000), (0, .ref a0), (1, .int u1), (4, .int x3)]) hx hb dX5_nearestPot_69 rfl hl (by decide) rfl (fun ls hl => ?_)
        obtain ⟨x21, ex21, hsp⟩ := nmE hsp
        refine lv_iinc (k := 5) (v := x21) (lv' := [(4, .int x21), (3, .int x2), (2, .int x1), (5, .int 1000), (0, .ref a0), (1, .int u1)]) hx hb dX5_nearestPot_70 hl rfl (by rw [ex21]; rfl) (by decide) rfl (fun ls hl => ?_)
        refine lv_goto (tgt := 10) hx hb dX5_nearestPot_73 (by decide) ?_
        exact ih1 (x1, x2, x21, y4) _ _ hsp hP hD hS _ (lv_sub hl [4, 5, 2, 1, 0] rfl)
      have hsp := itF hsp c20
      refine lv_iload hx hb dX5_nearestPot_63 (lv_at hl 1 rfl) ?_
      refine lv_goto (tgt := 69) hx hb dX5_nearestPot_65 (by decide) ?_
      refine lv_istore_n (lv' := [(3, .int 1000), (2, .int x1), (5, .int 1000), (0, .ref a0), (1, .int u1), (4, .int x3)]) hx hb dX5_nearestPot_69 rfl hl (by decide) rfl (fun ls hl => ?_)
      obtain ⟨x22, ex22, hsp⟩ := nmE hsp
      refine lv_iinc (k := 5) (v := x22) (lv' := [(4, .int x22), (3, .int 1000), (2, .int x1), (5, .int 1000), (0, .ref a0), (1, .int u1)]) hx hb dX5_nearestPot_70 hl rfl (by rw [ex22]; rfl) (by decide) rfl (fun ls hl => ?_)
      refine lv_goto (tgt := 10) hx hb dX5_nearestPot_73 (by decide) ?_
      exact ih1 (x1, 1000, x22, y4) _ _ hsp hP hD hS _ (lv_sub hl [4, 5, 2, 1, 0] rfl)
    have hsp := itF hsp c19
    refine lv_iload hx hb dX5_nearestPot_50 (lv_at hl 5 rfl) ?_
    refine lv_goto (tgt := 56) hx hb dX5_nearestPot_52 (by decide) ?_
    refine lv_istore_n (lv' := [(2, .int x3), (5, .int 1000), (0, .ref a0), (1, .int u1), (3, .int x2), (4, .int x3)]) hx hb dX5_nearestPot_56 rfl hl (by decide) rfl (fun ls hl => ?_)
    refine lv_iload hx hb dX5_nearestPot_57 (lv_at hl 1 rfl) ?_
    refine lv_iload_n hx hb dX5_nearestPot_59 rfl (lv_at hl 4 rfl) ?_
    refine lv_icmp_ge (tgt := 68) hx hb dX5_nearestPot_60 (by decide) (fun c23 => ?_) (fun c23 => ?_)
    · have hsp := itT hsp c23
      refine lv_iload_n hx hb dX5_nearestPot_68 rfl (lv_at hl 4 rfl) ?_
      refine lv_istore_n (lv' := [(3, .int x2), (2, .int x3), (5, .int 1000), (0, .ref a0), (1, .int u1), (4, .int x3)]) hx hb dX5_nearestPot_69 rfl hl (by decide) rfl (fun ls hl => ?_)
      obtain ⟨x24, ex24, hsp⟩ := nmE hsp
      refine lv_iinc (k := 5) (v := x24) (lv' := [(4, .int x24), (3, .int x2), (2, .int x3), (5, .int 1000), (0, .ref a0), (1, .int u1)]) hx hb dX5_nearestPot_70 hl rfl (by rw [ex24]; rfl) (by decide) rfl (fun ls hl => ?_)
      refine lv_goto (tgt := 10) hx hb dX5_nearestPot_73 (by decide) ?_
      exact ih1 (x3, x2, x24, y4) _ _ hsp hP hD hS _ (lv_sub hl [4, 5, 2, 1, 0] rfl)
    have hsp := itF hsp c23
    refine lv_iload hx hb dX5_nearestPot_63 (lv_at hl 1 rfl) ?_
    refine lv_goto (tgt := 69) hx hb dX5_nearestPot_65 (by decide) ?_
    refine lv_istore_n (lv' := [(3, .int 1000), (2, .int x3), (5, .int 1000), (0, .ref a0), (1, .int u1), (4, .int x3)]) hx hb dX5_nearestPot_69 rfl hl (by decide) rfl (fun ls hl => ?_)
    obtain ⟨x25, ex25, hsp⟩ := nmE hsp
    refine lv_iinc (k := 5) (v := x25) (lv' := [(4, .int x25), (3, .int 1000), (2, .int x3), (5, .int 1000), (0, .ref a0), (1, .int u1)]) hx hb dX5_nearestPot_70 hl rfl (by rw [ex25]; rfl) (by decide) rfl (fun ls hl => ?_)
    refine lv_goto (tgt := 10) hx hb dX5_nearestPot_73 (by decide) ?_
    exact ih1 (x3, 1000, x25, y4) _ _ hsp hP hD hS _ (lv_sub hl [4, 5, 2, 1, 0] rfl)

theorem nd_X5_next : yX5_next.cls = RX5 ∧ yX5_next.cls ≠ "java/lang/invoke/MethodHandle" ∧ yX5_next.cls ≠ "java/lang/invoke/VarHandle" ∧ (parseMethodDescriptor yX5_next.desc).map (fun d => d.parameters.length) = some 2 := by decide +kernel
set_option maxHeartbeats 8000000 in
set_option maxRecDepth 100000 in
theorem k_X5_next (l : Launch) (D : va_G) (cI cZ cC cS : ClassId) (sz : Nat) (a0 a1 a7 : Nat) (w0_1 : Value) (w0_2 : Value) (w0_3 : Value) (w0_4 : Value) (w0_5 : Value) (w0_7 : Value) (w0_8 : Value) (w0_9 : Value) (w0_10 : Value) (w0_11 : Value) (w0_12 : Value) (f1 : Nat → Int32) (f7 : Nat → Int32) (u1 : Int32) (u2 : Int32) (res : Int32 × (Nat → Int32)) (hsp : s_X5_next f1 f7 u1 u2 = some res) : Met l yX5_next wsX5_next ({ frames := 5, cells := 0, slots := 0, locals := 112 }) (va_Pc [.ref a0, .int u1, .int u2] (PB D cI cZ cC cS [(a0, .inr (5, [.ref a1, w0_1, w0_2, w0_3, w0_4, w0_5, .ref a7, w0_7, w0_8, w0_9, w0_10, w0_11, w0_12])), (a1, .inl (cI, 99, .inl f1)), (a7, .inl (cI, 3, .inl f7))] sz)) (va_Qi (fun r (_ : Unit) => r = res.1) (fun _ t => va_P D vwCl [(a0, .inr (5, [.ref a1, w0_1, w0_2, w0_3, w0_4, w0_5, .ref a7, w0_7, w0_8, w0_9, w0_10, w0_11, w0_12])), (a1, .inl (cI, 99, .inl f1)), (a7, .inl (cI, 3, .inl res.2))] t.heap) (va_A [(a0, .inr (5, [.ref a1, w0_1, w0_2, w0_3, w0_4, w0_5, .ref a7, w0_7, w0_8, w0_9, w0_10, w0_11, w0_12])), (a1, .inl (cI, 99, .inl f1)), (a7, .inl (cI, 3, .inl f7))] sz)) 0 0 (va_A [(a0, .inr (5, [.ref a1, w0_1, w0_2, w0_3, w0_4, w0_5, .ref a7, w0_7, w0_8, w0_9, w0_10, w0_11, w0_12])), (a1, .inl (cI, 99, .inl f1)), (a7, .inl (cI, 3, .inl f7))] sz) := by
  refine Met.ofW (cc := cX5_next) (maxL := 6) (ret := (some .int)) (by decide) rfl ?_
  intro p e s m args below meth c s₁ B hml hv
  obtain ⟨rfl, hsz, hP, hD0, hKU⟩ := hv
  have hx := B.exec
  have hb := B.bytes
  have hr := B.returns
  have hts := atoms_spec (ws := wsX5_next) B.pre
  have hown : s.vm.findClass RX5 = some m.cls := findClass_of_methodNamed B.named
  have hlocks := B.notSynchronized
  have hK := hKU.1
  subst hsz
  have hD := hD0.self (sz := s.heap.size)
  generalize hAe : va_A [(a0, .inr (5, [.ref a1, w0_1, w0_2, w0_3, w0_4, w0_5, .ref a7, w0_7, w0_8, w0_9, w0_10, w0_11, w0_12])), (a1, .inl (cI, 99, .inl f1)), (a7, .inl (cI, 3, .inl f7))] s.heap.size = A at hD ⊢
  have hA : ∀ q : Nat, s.heap.size ≤ q → A q := fun q h => by rw [← hAe]; exact Or.inr h
  have hP : va_P D vwCl [(a0, .inr (5, [.ref a1, w0_1, w0_2, w0_3, w0_4, w0_5, .ref a7, w0_7, w0_8, w0_9, w0_10, w0_11, w0_12])), (a1, .inl (cI, 99, .inl f1)), (a7, .inl (cI, 3, .inl f7))] s.heap := hP
  generalize hHe : s.heap = H at hP ⊢
  have hS : va_S A s.heap H [] := by rw [hHe]; exact va_S.rf
  have hl := lv_entry ([.ref a0, .int u1, .int u2]) (n := 6) (Nat.le_of_ble_eq_true rfl)
  rw [lg_entry_eq]
  generalize (lg_sl ([.ref a0, .int u1, .int u2]) ++ List.replicate (6 - (lg_sl ([.ref a0, .int u1, .int u2])).length) Slot.unset).toArray = ls at hl ⊢
  have hl : lv_has ls 6 [(0, .ref a0), (1, .int u1), (2, .int u2)] := hl
  unfold s_X5_next at hsp
  refine lv_bipush (v := (-6)) hx hb dX5_next_0 (by decide) ?_
  refine lv_istore_n (lv' := [(3, .int (-6)), (0, .ref a0), (1, .int u1), (2, .int u2)]) hx hb dX5_next_2 rfl hl (by decide) rfl (fun ls hl => ?_)
  refine lv_iconst (v := 5) hx hb dX5_next_3 (by decide) ?_
  refine lv_istore (lv' := [(4, .int 5), (3, .int (-6)), (0, .ref a0), (1, .int u1), (2, .int u2)]) hx hb dX5_next_4 hl (by decide) rfl (fun ls hl => ?_)
  refine ex_rule (D := D) (K := s_X5_next_X1) (P := fun (t1 : Int32 × (Nat → Int32)) => [(a0, .inr (5, [.ref a1, w0_1, w0_2, w0_3, w0_4, w0_5, .ref a7, w0_7, w0_8, w0_9, w0_10, w0_11, w0_12])), (a1, .inl (cI, 99, .inl f1)), (a7, .inl (cI, 3, .inl t1.2))]) (L := fun (t1 : Int32 × (Nat → Int32)) => [(3, .int t1.1)]) (nL := 6) (pcx := 61) (res := res) (A := A) (H0 := s.heap) ?_ (fun hx1 => ?_)
  · intro t1 H locs hsp hP hD hS ls hl
    obtain ⟨x4, y5⟩ := t1
    unfold s_X5_next_X1 at hsp; try dsimp only at hsp
    have hP : va_P D vwCl [(a0, .inr (5, [.ref a1, w0_1, w0_2, w0_3, w0_4, w0_5, .ref a7, w0_7, w0_8, w0_9, w0_10, w0_11, w0_12])), (a1, .inl (cI, 99, .inl f1)), (a7, .inl (cI, 3, .inl y5))] H := hP
    have hD : va_D A [(a0, .inr (5, [.ref a1, w0_1, w0_2, w0_3, w0_4, w0_5, .ref a7, w0_7, w0_8, w0_9, w0_10, w0_11, w0_12])), (a1, .inl (cI, 99, .inl f1)), (a7, .inl (cI, 3, .inl y5))] := hD
    have hl : lv_has ls 6 [(3, .int x4)] := hl
    refine lv_iload_n hx hb dX5_next_61 rfl (lv_at hl 0 rfl) ?_
    have hres := Option.some.inj hsp
    subst hres
    exact W.iret (v := x4) hx hb hr (fun t ht hW => ⟨⟨x4, (), rfl, rfl, P_at ht hP⟩, hS.F ht⟩) hS.2.2 dX5_next_62
  have hl := lv_sub hl (l' := [(0, .ref a0), (1, .int u1), (2, .int u2), (3, .int (-6)), (4, .int 5)]) [2, 3, 4, 1, 0] rfl
  refine lp_rule (D := D) (F := s_X5_next_L1 u1 u2 f1 (s_X5_next_X1)) (P := fun (tv : Int32 × Int32 × (Nat → Int32)) => [(a0, .inr (5, [.ref a1, w0_1, w0_2, w0_3, w0_4, w0_5, .ref a7, w0_7, w0_8, w0_9, w0_10, w0_11, w0_12])), (a1, .inl (cI, 99, .inl f1)), (a7, .inl (cI, 3, .inl tv.2.2))]) (L := fun (tv : Int32 × Int32 × (Nat → Int32)) => [(0, .ref a0), (1, .int u1), (2, .int u2), (3, .int tv.1), (4, .int tv.2.1)]) (nL := 6) (res := res) (A := A) (H0 := s.heap) (fun _ => rfl) ?_ 1000 ((-6), 5, f7) _ _ hsp hP hD hS _ hl
  · intro n1 ih1 tv H locs hsp hP hD hS ls hl
    obtain ⟨x1, x2, y3⟩ := tv
    have hsp : s_X5_next_B1  u1 u2 f1 (s_X5_next_X1) (s_X5_next_L1 u1 u2 f1 (s_X5_next_X1) n1) x1 x2 y3 = some res := hsp
    unfold s_X5_next_B1 at hsp
    have hP : va_P D vwCl [(a0, .inr (5, [.ref a1, w0_1, w0_2, w0_3, w0_4, w0_5, .ref a7, w0_7, w0_8, w0_9, w0_10, w0_11, w0_12])), (a1, .inl (cI, 99, .inl f1)), (a7, .inl (cI, 3, .inl y3))] H := hP
    have hD : va_D A [(a0, .inr (5, [.ref a1, w0_1, w0_2, w0_3, w0_4, w0_5, .ref a7, w0_7, w0_8, w0_9, w0_10, w0_11, w0_12])), (a1, .inl (cI, 99, .inl f1)), (a7, .inl (cI, 3, .inl y3))] := hD
    have hl : lv_has ls 6 [(0, .ref a0), (1, .int u1), (2, .int u2), (3, .int x1), (4, .int x2)] := hl
    refine lv_iload hx hb dX5_next_6 (lv_at hl 4 rfl) ?_
    refine lv_if_lt (tgt := 61) hx hb dX5_next_8 (by decide) (fun c6 => ?_) (fun c6 => ?_)
    · have hsp := itT hsp c6
      exact hx1 (x1, y3) _ _ hsp hP hD hS _ (lv_sub hl [3] rfl)
    have hsp := itF hsp c6
    refine lv_iload_n hx hb dX5_next_11 rfl (lv_at hl 1 rfl) ?_
    refine lv_iload hx hb dX5_next_12 (lv_at hl 4 rfl) ?_
    refine lv_ishr hx hb dX5_next_14 ?_
    refine lv_iconst (v := 1) hx hb dX5_next_15 (by decide) ?_
    refine lv_iand hx hb dX5_next_16 ?_
    refine lv_if_ne (tgt := 40) hx hb dX5_next_17 (by decide) (fun c7 => ?_) (fun c7 => ?_)
    · have hsp := itF hsp c7
      refine lv_iconst (v := 0) hx hb dX5_next_40 (by decide) ?_
      refine lv_istore (lv' := [(5, .int 0), (0, .ref a0), (1, .int u1), (2, .int u2), (3, .int x1), (4, .int x2)]) hx hb dX5_next_41 hl (by decide) rfl (fun ls hl => ?_)
      refine lv_iload hx hb dX5_next_43 (lv_at hl 0 rfl) ?_
      refine lv_if_eq (tgt := 53) hx hb dX5_next_45 (by decide) (fun _ => ?_) (fun hc => absurd hc (by decide))
      refine lv_iload_n hx hb dX5_next_53 rfl (lv_at hl 4 rfl) ?_
      refine lv_istore_n (lv' := [(3, .int x1), (5, .int 0), (0, .ref a0), (1, .int u1), (2, .int u2), (4, .int x2)]) hx hb dX5_next_54 rfl hl (by decide) rfl (fun ls hl => ?_)
      obtain ⟨x8, ex8, hsp⟩ := nmE hsp
      refine lv_iinc (k := 5) (v := x8) (lv' := [(4, .int x8), (3, .int x1), (5, .int 0), (0, .ref a0), (1, .int u1), (2, .int u2)]) hx hb dX5_next_55 hl rfl (by rw [ex8]; rfl) (by decide) rfl (fun ls hl => ?_)
      refine lv_goto (tgt := 6) hx hb dX5_next_58 (by decide) ?_
      exact ih1 (x1, x8, y3) _ _ hsp hP hD hS _ (lv_sub hl [3, 4, 5, 1, 0] rfl)
    have hsp := itT hsp c7
    refine lv_iload_n hx hb dX5_next_20 rfl (lv_at hl 2 rfl) ?_
    refine lv_bipush (v := (-6)) hx hb dX5_next_21 (by decide) ?_
    refine lv_icmp_eq (tgt := 36) hx hb dX5_next_23 (by decide) (fun c9 => ?_) (fun c9 => ?_)
    · have hsp := itT hsp c9
      refine lv_iconst (v := 1) hx hb dX5_next_36 (by decide) ?_
      refine lv_goto (tgt := 41) hx hb dX5_next_37 (by decide) ?_
      refine lv_istore (lv' := [(5, .int 1), (0, .ref a0), (1, .int u1), (2, .int u2), (3, .int x1), (4, .int x2)]) hx hb dX5_next_41 hl (by decide) rfl (fun ls hl => ?_)
      refine lv_iload hx hb dX5_next_43 (lv_at hl 0 rfl) ?_
      refine lv_if_eq (tgt := 53) hx hb dX5_next_45 (by decide) (fun hc => absurd hc (by decide)) (fun _ => ?_)
      refine lv_iload hx hb dX5_next_48 (lv_at hl 5 rfl) ?_
      refine lv_goto (tgt := 54) hx hb dX5_next_50 (by decide) ?_
      refine lv_istore_n (lv' := [(3, .int x2), (5, .int 1), (0, .ref a0), (1, .int u1), (2, .int u2), (4, .int x2)]) hx hb dX5_next_54 rfl hl (by decide) rfl (fun ls hl => ?_)
      obtain ⟨x10, ex10, hsp⟩ := nmE hsp
      refine lv_iinc (k := 5) (v := x10) (lv' := [(4, .int x10), (3, .int x2), (5, .int 1), (0, .ref a0), (1, .int u1), (2, .int u2)]) hx hb dX5_next_55 hl rfl (by rw [ex10]; rfl) (by decide) rfl (fun ls hl => ?_)
      refine lv_goto (tgt := 6) hx hb dX5_next_58 (by decide) ?_
      exact ih1 (x2, x10, y3) _ _ hsp hP hD hS _ (lv_sub hl [3, 4, 5, 1, 0] rfl)
    have hsp := itF hsp c9
    refine lv_aload_n hx hb dX5_next_26 rfl (lv_at hl 0 rfl) ?_
    refine lv_iload hx hb dX5_next_27 (lv_at hl 4 rfl) ?_
    obtain ⟨r11, hcr11, hsp⟩ := clE hsp
    refine call_i (w1 := [(a0, .inr (5, [.ref a1, w0_1, w0_2, w0_3, w0_4, w0_5, .ref a7, w0_7, w0_8, w0_9, w0_10, w0_11, w0_12])), (a1, .inl (cI, 99, .inl f1)), (a7, .inl (cI, 3, .inl r11.2))]) (ws' := [(a0, .inr (5, [.ref a1, w0_1, w0_2, w0_3, w0_4, w0_5, .ref a7, w0_7, w0_8, w0_9, w0_10, w0_11, w0_12])), (a1, .inl (cI, 99, .inl f1)), (a7, .inl (cI, 3, .inl r11.2))]) (va_runV (As := [.int x2]) (rest := []) ⟨hx, hb, hml, hown, hts⟩ (k_X5_nearestPot l D cI cZ cC cS H.size a0 a1 a7 (w0_1) (w0_2) (w0_3) (w0_4) (w0_5) (w0_7) (w0_8) (w0_9) (w0_10) (w0_11) (w0_12) f1 y3 x2 r11 hcr11) (cwV 1 hts gX5_next_X5_nearestPot rfl rfl rfl nd_X5_nearestPot ⟨Nat.le_of_ble_eq_true rfl, Nat.le_of_ble_eq_true rfl⟩) (PB.preV (ci := 5) (q0 := 0) hKU hP hD [0, 1, 2] rfl rfl rfl rfl) rfl rfl hl.1 rfl (lv_room (Nat.le_of_ble_eq_true rfl)) dX5_next_29 ⟨Nat.zero_le _, Nat.zero_le _⟩) hS hP hD hA [0, 1, 2] rfl rfl (by first | (simp only [wset, List.set_cons_zero, List.set_cons_succ]; done) | rfl) rfl (fun H locs hP hD hS => ?_)
    refine lv_iload_n hx hb dX5_next_32 rfl (lv_at hl 2 rfl) ?_
    refine lv_icmp_ne (tgt := 40) hx hb dX5_next_33 (by decide) (fun c12 => ?_) (fun c12 => ?_)
    · have hsp := itF hsp c12
      refine lv_iconst (v := 0) hx hb dX5_next_40 (by decide) ?_
      refine lv_istore (lv' := [(5, .int 0), (0, .ref a0), (1, .int u1), (2, .int u2), (3, .int x1), (4, .int x2)]) hx hb dX5_next_41 hl (by decide) rfl (fun ls hl => ?_)
      refine lv_iload hx hb dX5_next_43 (lv_at hl 0 rfl) ?_
      refine lv_if_eq (tgt := 53) hx hb dX5_next_45 (by decide) (fun _ => ?_) (fun hc => absurd hc (by decide))
      refine lv_iload_n hx hb dX5_next_53 rfl (lv_at hl 4 rfl) ?_
      refine lv_istore_n (lv' := [(3, .int x1), (5, .int 0), (0, .ref a0), (1, .int u1), (2, .int u2), (4, .int x2)]) hx hb dX5_next_54 rfl hl (by decide) rfl (fun ls hl => ?_)
      obtain ⟨x13, ex13, hsp⟩ := nmE hsp
      refine lv_iinc (k := 5) (v := x13) (lv' := [(4, .int x13), (3, .int x1), (5, .int 0), (0, .ref a0), (1, .int u1), (2, .int u2)]) hx hb dX5_next_55 hl rfl (by rw [ex13]; rfl) (by decide) rfl (fun ls hl => ?_)
      refine lv_goto (tgt := 6) hx hb dX5_next_58 (by decide) ?_
      exact ih1 (x1, x13, r11.2) _ _ hsp hP hD hS _ (lv_sub hl [3, 4, 5, 1, 0] rfl)
    have hsp := itT hsp c12
    refine lv_iconst (v := 1) hx hb dX5_next_36 (by decide) ?_
    refine lv_goto (tgt := 41) hx hb dX5_next_37 (by decide) ?_
    refine lv_istore (lv' := [(5, .int 1), (0, .ref a0), (1, .int u1), (2, .int u2), (3, .int x1), (4, .int x2)]) hx hb dX5_next_41 hl (by decide) rfl (fun ls hl => ?_)
    refine lv_iload hx hb dX5_next_43 (lv_at hl 0 rfl) ?_
    refine lv_if_eq (tgt := 53) hx hb dX5_next_45 (by decide) (fun hc => absurd hc (by decide)) (fun _ => ?_)
    refine lv_iload hx hb dX5_next_48 (lv_at hl 5 rfl) ?_
    refine lv_goto (tgt := 54) hx hb dX5_next_50 (by decide) ?_
    refine lv_istore_n (lv' := [(3, .int x2), (5, .int 1), (0, .ref a0), (1, .int u1), (2, .int u2), (4, .int x2)]) hx hb dX5_next_54 rfl hl (by decide) rfl (fun ls hl => ?_)
    obtain ⟨x14, ex14, hsp⟩ := nmE hsp
    refine lv_iinc (k := 5) (v := x14) (lv' := [(4, .int x14), (3, .int x2), (5, .int 1), (0, .ref a0), (1, .int u1), (2, .int u2)]) hx hb dX5_next_55 hl rfl (by rw [ex14]; rfl) (by decide) rfl (fun ls hl => ?_)
    refine lv_goto (tgt := 6) hx hb dX5_next_58 (by decide) ?_
    exact ih1 (x2, x14, r11.2) _ _ hsp hP hD hS _ (lv_sub hl [3, 4, 5, 1, 0] rfl)

theorem nd_X5_bestOrder : yX5_bestOrder.cls = RX5 ∧ yX5_bestOrder.cls ≠ "java/lang/invoke/MethodHandle" ∧ yX5_bestOrder.cls ≠ "java/lang/invoke/VarHandle" ∧ (parseMethodDescriptor yX5_bestOrder.desc).map (fun d => d.parameters.length) = some 1 := by decide +kernel
set_option maxHeartbeats 8000000 in
set_option maxRecDepth 100000 in
theorem k_X5_bestOrder (l : Launch) (D : va_G) (cI cZ cC cS : ClassId) (sz : Nat) (a0 a1 a7 : Nat) (w0_1 : Value) (w0_2 : Value) (w0_3 : Value) (w0_4 : Value) (w0_5 : Value) (w0_7 : Value) (w0_8 : Value) (w0_9 : Value) (w0_10 : Value) (w0_11 : Value) (w0_12 : Value) (f1 : Nat → Int32) (f7 : Nat → Int32) (u1 : Int32) (res : Int32 × (Nat → Int32)) (hsp : s_X5_bestOrder f1 f7 u1 = some res) : Met l yX5_bestOrder wsX5_bestOrder ({ frames := 6, cells := 0, slots := 0, locals := 137 }) (va_Pc [.ref a0, .int u1] (PB D cI cZ cC cS [(a0, .inr (5, [.ref a1, w0_1, w0_2, w0_3, w0_4, w0_5, .ref a7, w0_7, w0_8, w0_9, w0_10, w0_11, w0_12])), (a1, .inl (cI, 99, .inl f1)), (a7, .inl (cI, 3, .inl f7))] sz)) (va_Qi (fun r (_ : Unit) => r = res.1) (fun _ t => va_P D vwCl [(a0, .inr (5, [.ref a1, w0_1, w0_2, w0_3, w0_4, w0_5, .ref a7, w0_7, w0_8, w0_9, w0_10, w0_11, w0_12])), (a1, .inl (cI, 99, .inl f1)), (a7, .inl (cI, 3, .inl res.2))] t.heap) (va_A [(a0, .inr (5, [.ref a1, w0_1, w0_2, w0_3, w0_4, w0_5, .ref a7, w0_7, w0_8, w0_9, w0_10, w0_11, w0_12])), (a1, .inl (cI, 99, .inl f1)), (a7, .inl (cI, 3, .inl f7))] sz)) 0 0 (va_A [(a0, .inr (5, [.ref a1, w0_1, w0_2, w0_3, w0_4, w0_5, .ref a7, w0_7, w0_8, w0_9, w0_10, w0_11, w0_12])), (a1, .inl (cI, 99, .inl f1)), (a7, .inl (cI, 3, .inl f7))] sz) := by
  refine Met.ofW (cc := cX5_bestOrder) (maxL := 6) (ret := (some .int)) (by decide) rfl ?_
  intro p e s m args below meth c s₁ B hml hv
  obtain ⟨rfl, hsz, hP, hD0, hKU⟩ := hv
  have hx := B.exec
  have hb := B.bytes
  have hr := B.returns
  have hts := atoms_spec (ws := wsX5_bestOrder) B.pre
  have hown : s.vm.findClass RX5 = some m.cls := findClass_of_methodNamed B.named
  have hlocks := B.notSynchronized
  have hK := hKU.1
  subst hsz
  have hD := hD0.self (sz := s.heap.size)
  generalize hAe : va_A [(a0, .inr (5, [.ref a1, w0_1, w0_2, w0_3, w0_4, w0_5, .ref a7, w0_7, w0_8, w0_9, w0_10, w0_11, w0_12])), (a1, .inl (cI, 99, .inl f1)), (a7, .inl (cI, 3, .inl f7))] s.heap.size = A at hD ⊢
  have hA : ∀ q : Nat, s.heap.size ≤ q → A q := fun q h => by rw [← hAe]; exact Or.inr h
  have hP : va_P D vwCl [(a0, .inr (5, [.ref a1, w0_1, w0_2, w0_3, w0_4, w0_5, .ref a7, w0_7, w0_8, w0_9, w0_10, w0_11, w0_12])), (a1, .inl (cI, 99, .inl f1)), (a7, .inl (cI, 3, .inl f7))] s.heap := hP
  generalize hHe : s.heap = H at hP ⊢
  have hS : va_S A s.heap H [] := by rw [hHe]; exact va_S.rf
  have hl := lv_entry ([.ref a0, .int u1]) (n := 6) (Nat.le_of_ble_eq_true rfl)
  rw [lg_entry_eq]
  generalize (lg_sl ([.ref a0, .int u1]) ++ List.replicate (6 - (lg_sl ([.ref a0, .int u1])).length) Slot.unset).toArray = ls at hl ⊢
  have hl : lv_has ls 6 [(0, .ref a0), (1, .int u1)] := hl
  unfold s_X5_bestOrder at hsp
  refine lv_iload_n hx hb dX5_bestOrder_0 rfl (lv_at hl 1 rfl) ?_
  refine lv_iconst (v := 0) hx hb dX5_bestOrder_1 (by decide) ?_
  refine lv_iconst (v := 5) hx hb dX5_bestOrder_2 (by decide) ?_
  obtain ⟨r1, hcr1, hsp⟩ := clE hsp
  refine call_z (w1 := []) (ws' := [(a0, .inr (5, [.ref a1, w0_1, w0_2, w0_3, w0_4, w0_5, .ref a7, w0_7, w0_8, w0_9, w0_10, w0_11, w0_12])), (a1, .inl (cI, 99, .inl f1)), (a7, .inl (cI, 3, .inl f7))]) (va_runS (As := [.int u1, .int 0, .int 5]) (rest := []) ⟨hx, hb, hml, hown, hts⟩ (k_X5_in l D cI cZ cC cS H.size u1 0 5 r1 hcr1) (va_cwS 3 hts gX5_bestOrder_X5_in rfl rfl rfl nd_X5_in.2 ⟨Nat.le_of_ble_eq_true rfl, Nat.le_of_ble_eq_true rfl⟩) (PB.preS hKU hP hD [] rfl rfl) rfl rfl hl.1 rfl (lv_room (Nat.le_of_ble_eq_true rfl)) dX5_bestOrder_3 ⟨Nat.zero_le _, Nat.zero_le _⟩) hS hP hD hA [] rfl rfl (by first | (simp only [wset, List.set_cons_zero, List.set_cons_succ]; done) | rfl) rfl (fun H locs hP hD hS hzr1 => ?_)
  refine lv_if_ne (tgt := 12) hx hb dX5_bestOrder_6 (by decide) (fun c2 => ?_) (fun c2 => ?_)
  · have hsp := itF hsp c2
    refine lv_aload_n hx hb dX5_bestOrder_12 rfl (lv_at hl 0 rfl) ?_
    obtain ⟨r3, hcr3, hsp⟩ := clE hsp
    refine call_i (w1 := [(a0, .inr (5, [.ref a1, w0_1, w0_2, w0_3, w0_4, w0_5, .ref a7, w0_7, w0_8, w0_9, w0_10, w0_11, w0_12])), (a1, .inl (cI, 99, .inl f1))]) (ws' := [(a0, .inr (5, [.ref a1, w0_1, w0_2, w0_3, w0_4, w0_5, .ref a7, w0_7, w0_8, w0_9, w0_10, w0_11, w0_12])), (a1, .inl (cI, 99, .inl f1)), (a7, .inl (cI, 3, .inl f7))]) (va_runV (As := []) (rest := []) ⟨hx, hb, hml, hown, hts⟩ (k_X5_inPots l D cI cZ cC cS H.size a0 a1 (w0_1) (w0_2) (w0_3) (w0_4) (w0_5) (.ref a7) (w0_7) (w0_8) (w0_9) (w0_10) (w0_11) (w0_12) f1 r3 hcr3) (cwV 0 hts gX5_bestOrder_X5_inPots rfl rfl rfl nd_X5_inPots ⟨Nat.le_of_ble_eq_true rfl, Nat.le_of_ble_eq_true rfl⟩) (PB.preV (ci := 5) (q0 := 0) hKU hP hD [0, 1] rfl rfl rfl rfl) rfl rfl hl.1 rfl (lv_room (Nat.le_of_ble_eq_true rfl)) dX5_bestOrder_13 ⟨Nat.zero_le _, Nat.zero_le _⟩) hS hP hD hA [0, 1] rfl rfl (by first | (simp only [wset, List.set_cons_zero, List.set_cons_succ]; done) | rfl) rfl (fun H locs hP hD hS => ?_)
    refine lv_if_ne (tgt := 22) hx hb dX5_bestOrder_16 (by decide) (fun c4 => ?_) (fun c4 => ?_)
    · have hsp := itF hsp c4
      refine lv_iconst (v := 0) hx hb dX5_bestOrder_22 (by decide) ?_
      refine lv_istore_n (lv' := [(2, .int 0), (0, .ref a0), (1, .int u1)]) hx hb dX5_bestOrder_23 rfl hl (by decide) rfl (fun ls hl => ?_)
      refine lv_iconst (v := 1) hx hb dX5_bestOrder_24 (by decide) ?_
      refine lv_istore_n (lv' := [(3, .int 1), (2, .int 0), (0, .ref a0), (1, .int u1)]) hx hb dX5_bestOrder_25 rfl hl (by decide) rfl (fun ls hl => ?_)
      refine lv_iconst (v := 0) hx hb dX5_bestOrder_26 (by decide) ?_
      refine lv_istore (lv' := [(4, .int 0), (3, .int 1), (2, .int 0), (0, .ref a0), (1, .int u1)]) hx hb dX5_bestOrder_27 hl (by decide) rfl (fun ls hl => ?_)
      refine ex_rule (D := D) (K := s_X5_bestOrder_X1) (P := fun (t1 : Int32 × (Nat → Int32)) => [(a0, .inr (5, [.ref a1, w0_1, w0_2, w0_3, w0_4, w0_5, .ref a7, w0_7, w0_8, w0_9, w0_10, w0_11, w0_12])), (a1, .inl (cI, 99, .inl f1)), (a7, .inl (cI, 3, .inl t1.2))]) (L := fun (t1 : Int32 × (Nat → Int32)) => [(2, .int t1.1)]) (nL := 6) (pcx := 79) (res := res) (A := A) (H0 := s.heap) ?_ (fun hx1 => ?_)
      · intro t1 H locs hsp hP hD hS ls hl
        obtain ⟨x9, y10⟩ := t1
        unfold s_X5_bestOrder_X1 at hsp; try dsimp only at hsp
        have hP : va_P D vwCl [(a0, .inr (5, [.ref a1, w0_1, w0_2, w0_3, w0_4, w0_5, .ref a7, w0_7, w0_8, w0_9, w0_10, w0_11, w0_12])), (a1, .inl (cI, 99, .inl f1)), (a7, .inl (cI, 3, .inl y10))] H := hP
        have hD : va_D A [(a0, .inr (5, [.ref a1, w0_1, w0_2, w0_3, w0_4, w0_5, .ref a7, w0_7, w0_8, w0_9, w0_10, w0_11, w0_12])), (a1, .inl (cI, 99, .inl f1)), (a7, .inl (cI, 3, .inl y10))] := hD
        have hl : lv_has ls 6 [(2, .int x9)] := hl
        refine lv_iload_n hx hb dX5_bestOrder_79 rfl (lv_at hl 0 rfl) ?_
        have hres := Option.some.inj hsp
        subst hres
        exact W.iret (v := x9) hx hb hr (fun t ht hW => ⟨⟨x9, (), rfl, rfl, P_at ht hP⟩, hS.F ht⟩) hS.2.2 dX5_bestOrder_80
      have hl := lv_sub hl (l' := [(0, .ref a0), (1, .int u1), (2, .int 0), (3, .int 1), (4, .int 0)]) [3, 4, 2, 1, 0] rfl
      refine lp_rule (D := D) (F := s_X5_bestOrder_L1 u1 f1 (s_X5_bestOrder_X1)) (P := fun (tv : Int32 × Int32 × Int32 × (Nat → Int32)) => [(a0, .inr (5, [.ref a1, w0_1, w0_2, w0_3, w0_4, w0_5, .ref a7, w0_7, w0_8, w0_9, w0_10, w0_11, w0_12])), (a1, .inl (cI, 99, .inl f1)), (a7, .inl (cI, 3, .inl tv.2.2.2))]) (L := fun (tv : Int32 × Int32 × Int32 × (Nat → Int32)) => [(0, .ref a0), (1, .int u1), (2, .int tv.1), (3, .int tv.2.1), (4, .int tv.2.2.1)]) (nL := 6) (res := res) (A := A) (H0 := s.heap) (fun _ => rfl) ?_ 1000 (0, 1, 0, f7) _ _ hsp hP hD hS _ hl
      · intro n1 ih1 tv H locs hsp hP hD hS ls hl
        obtain ⟨x5, x6, x7, y8⟩ := tv
        have hsp : s_X5_bestOrder_B1  u1 f1 (s_X5_bestOrder_X1) (s_X5_bestOrder_L1 u1 f1 (s_X5_bestOrder_X1) n1) x5 x6 x7 y8 = some res := hsp
        unfold s_X5_bestOrder_B1 at hsp
        have hP : va_P D vwCl [(a0, .inr (5, [.ref a1, w0_1, w0_2, w0_3, w0_4, w0_5, .ref a7, w0_7, w0_8, w0_9, w0_10, w0_11, w0_12])), (a1, .inl (cI, 99, .inl f1)), (a7, .inl (cI, 3, .inl y8))] H := hP
        have hD : va_D A [(a0, .inr (5, [.ref a1, w0_1, w0_2, w0_3, w0_4, w0_5, .ref a7, w0_7, w0_8, w0_9, w0_10, w0_11, w0_12])), (a1, .inl (cI, 99, .inl f1)), (a7, .inl (cI, 3, .inl y8))] := hD
        have hl : lv_has ls 6 [(0, .ref a0), (1, .int u1), (2, .int x5), (3, .int x6), (4, .int x7)] := hl
        refine lv_iload hx hb dX5_bestOrder_29 (lv_at hl 4 rfl) ?_
        refine lv_iload_n hx hb dX5_bestOrder_31 rfl (lv_at hl 1 rfl) ?_
        refine lv_icmp_ge (tgt := 79) hx hb dX5_bestOrder_32 (by decide) (fun c11 => ?_) (fun c11 => ?_)
        · have hsp := itT hsp c11
          exact hx1 (x5, y8) _ _ hsp hP hD hS _ (lv_sub hl [2] rfl)
        have hsp := itF hsp c11
        refine lv_aload_n hx hb dX5_bestOrder_35 rfl (lv_at hl 0 rfl) ?_
        refine lv_iload_n hx hb dX5_bestOrder_36 rfl (lv_at hl 3 rfl) ?_
        refine lv_aload_n hx hb dX5_bestOrder_37 rfl (lv_at hl 0 rfl) ?_
        refine lv_iload_n hx hb dX5_bestOrder_38 rfl (lv_at hl 2 rfl) ?_
        obtain ⟨r12, hcr12, hsp⟩ := clE hsp
        refine call_i (w1 := [(a0, .inr (5, [.ref a1, w0_1, w0_2, w0_3, w0_4, w0_5, .ref a7, w0_7, w0_8, w0_9, w0_10, w0_11, w0_12])), (a1, .inl (cI, 99, .inl f1)), (a7, .inl (cI, 3, .inl r12.2))]) (ws' := [(a0, .inr (5, [.ref a1, w0_1, w0_2, w0_3, w0_4, w0_5, .ref a7, w0_7, w0_8, w0_9, w0_10, w0_11, w0_12])), (a1, .inl (cI, 99, .inl f1)), (a7, .inl (cI, 3, .inl r12.2))]) (va_runV (As := [.int x5]) (rest := [.int x6, .ref a0]) ⟨hx, hb, hml, hown, hts⟩ (k_X5_nearestPot l D cI cZ cC cS H.size a0 a1 a7 (w0_1) (w0_2) (w0_3) (w0_4) (w0_5) (w0_7) (w0_8) (w0_9) (w0_10) (w0_11) (w0_12) f1 y8 x5 r12 hcr12) (cwV 1 hts gX5_bestOrder_X5_nearestPot rfl rfl rfl nd_X5_nearestPot ⟨Nat.le_of_ble_eq_true rfl, Nat.le_of_ble_eq_true rfl⟩) (PB.preV (ci := 5) (q0 := 0) hKU hP hD [0, 1, 2] rfl rfl rfl rfl) rfl rfl hl.1 rfl (lv_room (Nat.le_of_ble_eq_true rfl)) dX5_bestOrder_39 ⟨Nat.zero_le _, Nat.zero_le _⟩) hS hP hD hA [0, 1, 2] rfl rfl (by first | (simp only [wset, List.set_cons_zero, List.set_cons_succ]; done) | rfl) rfl (fun H locs hP hD hS => ?_)
        obtain ⟨r13, hcr13, hsp⟩ := clE hsp
        refine call_i (w1 := [(a0, .inr (5, [.ref a1, w0_1, w0_2, w0_3, w0_4, w0_5, .ref a7, w0_7, w0_8, w0_9, w0_10, w0_11, w0_12])), (a1, .inl (cI, 99, .inl f1)), (a7, .inl (cI, 3, .inl r13.2))]) (ws' := [(a0, .inr (5, [.ref a1, w0_1, w0_2, w0_3, w0_4, w0_5, .ref a7, w0_7, w0_8, w0_9, w0_10, w0_11, w0_12])), (a1, .inl (cI, 99, .inl f1)), (a7, .inl (cI, 3, .inl r13.2))]) (va_runV (As := [.int x6, .int r12.1]) (rest := []) ⟨hx, hb, hml, hown, hts⟩ (k_X5_next l D cI cZ cC cS H.size a0 a1 a7 (w0_1) (w0_2) (w0_3) (w0_4) (w0_5) (w0_7) (w0_8) (w0_9) (w0_10) (w0_11) (w0_12) f1 r12.2 x6 r12.1 r13 hcr13) (cwV 2 hts gX5_bestOrder_X5_next rfl rfl rfl nd_X5_next ⟨Nat.le_of_ble_eq_true rfl, Nat.le_of_ble_eq_true rfl⟩) (PB.preV (ci := 5) (q0 := 0) hKU hP hD [0, 1, 2] rfl rfl rfl rfl) rfl rfl hl.1 rfl (lv_room (Nat.le_of_ble_eq_true rfl)) dX5_bestOrder_42 ⟨Nat.zero_le _, Nat.zero_le _⟩) hS hP hD hA [0, 1, 2] rfl rfl (by first | (simp only [wset, List.set_cons_zero, List.set_cons_succ]; done) | rfl) rfl (fun H locs hP hD hS => ?_)
        refine lv_istore (lv' := [(5, .int r13.1), (0, .ref a0), (1, .int u1), (2, .int x5), (3, .int x6), (4, .int x7)]) hx hb dX5_bestOrder_45 hl (by decide) rfl (fun ls hl => ?_)
        refine lv_iload hx hb dX5_bestOrder_47 (lv_at hl 0 rfl) ?_
        refine lv_bipush (v := (-6)) hx hb dX5_bestOrder_49 (by decide) ?_
        refine lv_icmp_ne (tgt := 64) hx hb dX5_bestOrder_51 (by decide) (fun c14 => ?_) (fun c14 => ?_)
        · have hsp := itF hsp c14
          refine lv_iload hx hb dX5_bestOrder_64 (lv_at hl 0 rfl) ?_
          refine lv_istore_n (lv' := [(2, .int r13.1), (5, .int r13.1), (0, .ref a0), (1, .int u1), (3, .int x6), (4, .int x7)]) hx hb dX5_bestOrder_66 rfl hl (by decide) rfl (fun ls hl => ?_)
          refine lv_iload_n hx hb dX5_bestOrder_67 rfl (lv_at hl 4 rfl) ?_
          refine lv_iconst (v := 1) hx hb dX5_bestOrder_68 (by decide) ?_
          refine lv_iload_n hx hb dX5_bestOrder_69 rfl (lv_at hl 0 rfl) ?_
          refine lv_ishl hx hb dX5_bestOrder_70 ?_
          refine lv_ior hx hb dX5_bestOrder_71 ?_
          obtain ⟨x15, ex15, hsp⟩ := nmE hsp
          refine r_top ex15 ?_
          refine lv_istore_n (lv' := [(3, .int x15), (2, .int r13.1), (5, .int r13.1), (0, .ref a0), (1, .int u1), (4, .int x7)]) hx hb dX5_bestOrder_72 rfl hl (by decide) rfl (fun ls hl => ?_)
          obtain ⟨x16, ex16, hsp⟩ := nmE hsp
          refine lv_iinc (k := 5) (v := x16) (lv' := [(4, .int x16), (3, .int x15), (2, .int r13.1), (5, .int r13.1), (0, .ref a0), (1, .int u1)]) hx hb dX5_bestOrder_73 hl rfl (by rw [ex16]; rfl) (by decide) rfl (fun ls hl => ?_)
          refine lv_goto (tgt := 29) hx hb dX5_bestOrder_76 (by decide) ?_
          exact ih1 (r13.1, x15, x16, r13.2) _ _ hsp hP hD hS _ (lv_sub hl [4, 5, 2, 1, 0] rfl)
        have hsp := itT hsp c14
        refine lv_aload_n hx hb dX5_bestOrder_54 rfl (lv_at hl 1 rfl) ?_
        refine lv_iload_n hx hb dX5_bestOrder_55 rfl (lv_at hl 4 rfl) ?_
        refine lv_bipush (v := (-6)) hx hb dX5_bestOrder_56 (by decide) ?_
        obtain ⟨r17, hcr17, hsp⟩ := clE hsp
        refine call_i (w1 := [(a0, .inr (5, [.ref a1, w0_1, w0_2, w0_3, w0_4, w0_5, .ref a7, w0_7, w0_8, w0_9, w0_10, w0_11, w0_12])), (a1, .inl (cI, 99, .inl f1)), (a7, .inl (cI, 3, .inl r17.2))]) (ws' := [(a0, .inr (5, [.ref a1, w0_1, w0_2, w0_3, w0_4, w0_5, .ref a7, w0_7, w0_8, w0_9, w0_10, w0_11, w0_12])), (a1, .inl (cI, 99, .inl f1)), (a7, .inl (cI, 3, .inl r17.2))]) (va_runV (As := [.int x6, .int (-6)]) (rest := []) ⟨hx, hb, hml, hown, hts⟩ (k_X5_next l D cI cZ cC cS H.size a0 a1 a7 (w0_1) (w0_2) (w0_3) (w0_4) (w0_5) (w0_7) (w0_8) (w0_9) (w0_10) (w0_11) (w0_12) f1 r13.2 x6 (-6) r17 hcr17) (cwV 2 hts gX5_bestOrder_X5_next rfl rfl rfl nd_X5_next ⟨Nat.le_of_ble_eq_true rfl, Nat.le_of_ble_eq_true rfl⟩) (PB.preV (ci := 5) (q0 := 0) hKU hP hD [0, 1, 2] rfl rfl rfl rfl) rfl rfl hl.1 rfl (lv_room (Nat.le_of_ble_eq_true rfl)) dX5_bestOrder_58 ⟨Nat.zero_le _, Nat.zero_le _⟩) hS hP hD hA [0, 1, 2] rfl rfl (by first | (simp only [wset, List.set_cons_zero, List.set_cons_succ]; done) | rfl) rfl (fun H locs hP hD hS => ?_)
        refine lv_goto (tgt := 66) hx hb dX5_bestOrder_61 (by decide) ?_
        refine lv_istore_n (lv' := [(2, .int r17.1), (5, .int r13.1), (0, .ref a0), (1, .int u1), (3, .int x6), (4, .int x7)]) hx hb dX5_bestOrder_66 rfl hl (by decide) rfl (fun ls hl => ?_)
        refine lv_iload_n hx hb dX5_bestOrder_67 rfl (lv_at hl 4 rfl) ?_
        refine lv_iconst (v := 1) hx hb dX5_bestOrder_68 (by decide) ?_
        refine lv_iload_n hx hb dX5_bestOrder_69 rfl (lv_at hl 0 rfl) ?_
        refine lv_ishl hx hb dX5_bestOrder_70 ?_
        refine lv_ior hx hb dX5_bestOrder_71 ?_
        obtain ⟨x18, ex18, hsp⟩ := nmE hsp
        refine r_top ex18 ?_
        refine lv_istore_n (lv' := [(3, .int x18), (2, .int r17.1), (5, .int r13.1), (0, .ref a0), (1, .int u1), (4, .int x7)]) hx hb dX5_bestOrder_72 rfl hl (by decide) rfl (fun ls hl => ?_)
        obtain ⟨x19, ex19, hsp⟩ := nmE hsp
        refine lv_iinc (k := 5) (v := x19) (lv' := [(4, .int x19), (3, .int x18), (2, .int r17.1), (5, .int r13.1), (0, .ref a0), (1, .int u1)]) hx hb dX5_bestOrder_73 hl rfl (by rw [ex19]; rfl) (by decide) rfl (fun ls hl => ?_)
        refine lv_goto (tgt := 29) hx hb dX5_bestOrder_76 (by decide) ?_
        exact ih1 (r17.1, x18, x19, r17.2) _ _ hsp hP hD hS _ (lv_sub hl [4, 5, 2, 1, 0] rfl)
    have hsp := itT hsp c4
    refine lv_bipush (v := (-6)) hx hb dX5_bestOrder_19 (by decide) ?_
    have hres := Option.some.inj hsp
    subst hres
    exact W.iret (v := (-6)) hx hb hr (fun t ht hW => ⟨⟨(-6), (), rfl, rfl, P_at ht hP⟩, hS.F ht⟩) hS.2.2 dX5_bestOrder_21
  have hsp := itT hsp c2
  refine lv_bipush (v := (-2)) hx hb dX5_bestOrder_9 (by decide) ?_
  have hres := Option.some.inj hsp
  subst hres
  exact W.iret (v := (-2)) hx hb hr (fun t ht hW => ⟨⟨(-2), (), rfl, rfl, P_at ht hP⟩, hS.F ht⟩) hS.2.2 dX5_bestOrder_11

theorem nd_X5_isPot : yX5_isPot.cls = RX5 ∧ yX5_isPot.cls ≠ "java/lang/invoke/MethodHandle" ∧ yX5_isPot.cls ≠ "java/lang/invoke/VarHandle" ∧ (parseMethodDescriptor yX5_isPot.desc).map (fun d => d.parameters.length) = some 1 := by decide +kernel
set_option maxHeartbeats 8000000 in
set_option maxRecDepth 100000 in
theorem k_X5_isPot (l : Launch) (D : va_G) (cI cZ cC cS : ClassId) (sz : Nat) (u0 : Int32) (res : Int32) (hsp : s_X5_isPot u0 = some res) : Met l yX5_isPot wsX5_isPot ({ frames := 1, cells := 0, slots := 0, locals := 22 }) (va_Pc [.int u0] (PB D cI cZ cC cS [] sz)) (va_Qi (fun r (_ : Unit) => r = res ∧ (res = 0 ∨ res = 1)) (fun _ t => va_P D vwCl [] t.heap) (va_A [] sz)) 0 0 (va_A [] sz) := by
  refine Met.ofW (cc := cX5_isPot) (maxL := 1) (ret := (some .boolean)) (by decide) rfl ?_
  intro p e s m args below meth c s₁ B hml hv
  obtain ⟨rfl, hsz, hP, hD0, hKU⟩ := hv
  have hx := B.exec
  have hb := B.bytes
  have hr := B.returns
  have hts := atoms_spec (ws := wsX5_isPot) B.pre
  have hown : s.vm.findClass RX5 = some m.cls := findClass_of_methodNamed B.named
  have hlocks := B.notSynchronized
  have hK := hKU.1
  subst hsz
  have hD := hD0.self (sz := s.heap.size)
  generalize hAe : va_A [] s.heap.size = A at hD ⊢
  have hA : ∀ q : Nat, s.heap.size ≤ q → A q := fun q h => by rw [← hAe]; exact Or.inr h
  have hP : va_P D vwCl [] s.heap := hP
  generalize hHe : s.heap = H at hP ⊢
  have hS : va_S A s.heap H [] := by rw [hHe]; exact va_S.rf
  have hl := lv_entry ([.int u0]) (n := 1) (Nat.le_of_ble_eq_true rfl)
  rw [lg_entry_eq]
  generalize (lg_sl ([.int u0]) ++ List.replicate (1 - (lg_sl ([.int u0])).length) Slot.unset).toArray = ls at hl ⊢
  have hl : lv_has ls 1 [(0, .int u0)] := hl
  unfold s_X5_isPot at hsp
  refine lv_iload_n hx hb dX5_isPot_0 rfl (lv_at hl 0 rfl) ?_
  refine lv_iconst (v := 0) hx hb dX5_isPot_1 (by decide) ?_
  refine lv_bipush (v := 7) hx hb dX5_isPot_2 (by decide) ?_
  obtain ⟨r1, hcr1, hsp⟩ := clE hsp
  refine call_z (w1 := []) (ws' := []) (va_runS (As := [.int u0, .int 0, .int 7]) (rest := []) ⟨hx, hb, hml, hown, hts⟩ (k_X5_in l D cI cZ cC cS H.size u0 0 7 r1 hcr1) (va_cwS 3 hts gX5_isPot_X5_in rfl rfl rfl nd_X5_in.2 ⟨Nat.le_of_ble_eq_true rfl, Nat.le_of_ble_eq_true rfl⟩) (PB.preS hKU hP hD [] rfl rfl) rfl rfl hl.1 rfl (lv_room (Nat.le_of_ble_eq_true rfl)) dX5_isPot_4 ⟨Nat.zero_le _, Nat.zero_le _⟩) hS hP hD hA [] rfl rfl (by first | (simp only [wset, List.set_cons_zero, List.set_cons_succ]; done) | rfl) rfl (fun H locs hP hD hS hzr1 => ?_)
  have hres := Option.some.inj hsp
  subst hres
  exact W.zret (v := r1) hx hb hr (zE hzr1) (fun t ht hW => ⟨⟨r1, (), rfl, ⟨rfl, hzr1⟩, P_at ht hP⟩, hS.F ht⟩) hS.2.2 dX5_isPot_7

theorem nd_X5_bestThinning : yX5_bestThinning.cls = RX5 ∧ yX5_bestThinning.cls ≠ "java/lang/invoke/MethodHandle" ∧ yX5_bestThinning.cls ≠ "java/lang/invoke/VarHandle" ∧ (parseMethodDescriptor yX5_bestThinning.desc).map (fun d => d.parameters.length) = some 3 := by decide +kernel
set_option maxHeartbeats 8000000 in
set_option maxRecDepth 100000 in
theorem k_X5_bestThinning (l : Launch) (D : va_G) (cI cZ cC cS : ClassId) (sz : Nat) (a0 a1 a7 : Nat) (w0_1 : Value) (w0_2 : Value) (w0_3 : Value) (w0_4 : Value) (w0_5 : Value) (w0_7 : Value) (w0_8 : Value) (w0_9 : Value) (w0_10 : Value) (w0_11 : Value) (w0_12 : Value) (f1 : Nat → Int32) (f7 : Nat → Int32) (u1 : Int32) (u2 : Int32) (u3 : Int32) (res : Int32 × (Nat → Int32)) (hsp : s_X5_bestThinning f1 f7 u1 u2 u3 = some res) : Met l yX5_bestThinning wsX5_bestThinning ({ frames := 2, cells := 0, slots := 0, locals := 44 }) (va_Pc [.ref a0, .int u1, .int u2, .int u3] (PB D cI cZ cC cS [(a0, .inr (5, [.ref a1, w0_1, w0_2, w0_3, w0_4, w0_5, .ref a7, w0_7, w0_8, w0_9, w0_10, w0_11, w0_12])), (a1, .inl (cI, 99, .inl f1)), (a7, .inl (cI, 3, .inl f7))] sz)) (va_Qi (fun r (_ : Unit) => r = res.1) (fun _ t => va_P D vwCl [(a0, .inr (5, [.ref a1, w0_1, w0_2, w0_3, w0_4, w0_5, .ref a7, w0_7, w0_8, w0_9, w0_10, w0_11, w0_12])), (a1, .inl (cI, 99, .inl f1)), (a7, .inl (cI, 3, .inl res.2))] t.heap) (va_A [(a0, .inr (5, [.ref a1, w0_1, w0_2, w0_3, w0_4, w0_5, .ref a7, w0_7, w0_8, w0_9, w0_10, w0_11, w0_12])), (a1, .inl (cI, 99, .inl f1)), (a7, .inl (cI, 3, .inl f7))] sz)) 0 0 (va_A [(a0, .inr (5, [.ref a1, w0_1, w0_2, w0_3, w0_4, w0_5, .ref a7, w0_7, w0_8, w0_9, w0_10, w0_11, w0_12])), (a1, .inl (cI, 99, .inl f1)), (a7, .inl (cI, 3, .inl f7))] sz) := by
  refine Met.ofW (cc := cX5_bestThinning) (maxL := 10) (ret := (some .int)) (by decide) rfl ?_
  intro p e s m args below meth c s₁ B hml hv
  obtain ⟨rfl, hsz, hP, hD0, hKU⟩ := hv
  have hx := B.exec
  have hb := B.bytes
  have hr := B.returns
  have hts := atoms_spec (ws := wsX5_bestThinning) B.pre
  have hown : s.vm.findClass RX5 = some m.cls := findClass_of_methodNamed B.named
  have hlocks := B.notSynchronized
  have hK := hKU.1
  have hf_29 := hts (.fieldLink RX5 29 "ThinnedPotsModel" "shade" "[I") (by decide +kernel)
  have hi_X5 : ∀ w ∈ u_ws RX5 TX5 13, w ∈ wsX5_bestThinning := by decide +kernel
  have hf_7 := hts (.fieldLink RX5 7 "ThinnedPotsModel" "s" "[I") (by decide +kernel)
  subst hsz
  have hD := hD0.self (sz := s.heap.size)
  generalize hAe : va_A [(a0, .inr (5, [.ref a1, w0_1, w0_2, w0_3, w0_4, w0_5, .ref a7, w0_7, w0_8, w0_9, w0_10, w0_11, w0_12])), (a1, .inl (cI, 99, .inl f1)), (a7, .inl (cI, 3, .inl f7))] s.heap.size = A at hD ⊢
  have hA : ∀ q : Nat, s.heap.size ≤ q → A q := fun q h => by rw [← hAe]; exact Or.inr h
  have hP : va_P D vwCl [(a0, .inr (5, [.ref a1, w0_1, w0_2, w0_3, w0_4, w0_5, .ref a7, w0_7, w0_8, w0_9, w0_10, w0_11, w0_12])), (a1, .inl (cI, 99, .inl f1)), (a7, .inl (cI, 3, .inl f7))] s.heap := hP
  generalize hHe : s.heap = H at hP ⊢
  have hS : va_S A s.heap H [] := by rw [hHe]; exact va_S.rf
  have hl := lv_entry ([.ref a0, .int u1, .int u2, .int u3]) (n := 10) (Nat.le_of_ble_eq_true rfl)
  rw [lg_entry_eq]
  generalize (lg_sl ([.ref a0, .int u1, .int u2, .int u3]) ++ List.replicate (10 - (lg_sl ([.ref a0, .int u1, .int u2, .int u3])).length) Slot.unset).toArray = ls at hl ⊢
  have hl : lv_has ls 10 [(0, .ref a0), (1, .int u1), (2, .int u2), (3, .int u3)] := hl
  unfold s_X5_bestThinning at hsp
  refine lv_iload_n hx hb dX5_bestThinning_0 rfl (lv_at hl 1 rfl) ?_
  obtain ⟨r1, hcr1, hsp⟩ := clE hsp
  refine call_z (w1 := []) (ws' := [(a0, .inr (5, [.ref a1, w0_1, w0_2, w0_3, w0_4, w0_5, .ref a7, w0_7, w0_8, w0_9, w0_10, w0_11, w0_12])), (a1, .inl (cI, 99, .inl f1)), (a7, .inl (cI, 3, .inl f7))]) (va_runS (As := [.int u1]) (rest := []) ⟨hx, hb, hml, hown, hts⟩ (k_X5_isPanel l D cI cZ cC cS H.size u1 r1 hcr1) (va_cwS 1 hts gX5_bestThinning_X5_isPanel rfl rfl rfl nd_X5_isPanel.2 ⟨Nat.le_of_ble_eq_true rfl, Nat.le_of_ble_eq_true rfl⟩) (PB.preS hKU hP hD [] rfl rfl) rfl rfl hl.1 rfl (lv_room (Nat.le_of_ble_eq_true rfl)) dX5_bestThinning_1 ⟨Nat.zero_le _, Nat.zero_le _⟩) hS hP hD hA [] rfl rfl (by first | (simp only [wset, List.set_cons_zero, List.set_cons_succ]; done) | rfl) rfl (fun H locs hP hD hS hzr1 => ?_)
  refine lv_if_eq (tgt := 14) hx hb dX5_bestThinning_4 (by decide) (fun c2 => ?_) (fun c2 => ?_)
  · have hsp := itT hsp c2
    refine lv_iconst (v := (-1)) hx hb dX5_bestThinning_14 (by decide) ?_
    have hres := Option.some.inj hsp
    subst hres
    exact W.iret (v := (-1)) hx hb hr (fun t ht hW => ⟨⟨(-1), (), rfl, rfl, P_at ht hP⟩, hS.F ht⟩) hS.2.2 dX5_bestThinning_15
  have hsp := itF hsp c2
  refine lv_iload_n hx hb dX5_bestThinning_7 rfl (lv_at hl 2 rfl) ?_
  obtain ⟨r3, hcr3, hsp⟩ := clE hsp
  refine call_z (w1 := []) (ws' := [(a0, .inr (5, [.ref a1, w0_1, w0_2, w0_3, w0_4, w0_5, .ref a7, w0_7, w0_8, w0_9, w0_10, w0_11, w0_12])), (a1, .inl (cI, 99, .inl f1)), (a7, .inl (cI, 3, .inl f7))]) (va_runS (As := [.int u2]) (rest := []) ⟨hx, hb, hml, hown, hts⟩ (k_X5_isPot l D cI cZ cC cS H.size u2 r3 hcr3) (va_cwS 1 hts gX5_bestThinning_X5_isPot rfl rfl rfl nd_X5_isPot.2 ⟨Nat.le_of_ble_eq_true rfl, Nat.le_of_ble_eq_true rfl⟩) (PB.preS hKU hP hD [] rfl rfl) rfl rfl hl.1 rfl (lv_room (Nat.le_of_ble_eq_true rfl)) dX5_bestThinning_8 ⟨Nat.zero_le _, Nat.zero_le _⟩) hS hP hD hA [] rfl rfl (by first | (simp only [wset, List.set_cons_zero, List.set_cons_succ]; done) | rfl) rfl (fun H locs hP hD hS hzr3 => ?_)
  refine lv_if_ne (tgt := 16) hx hb dX5_bestThinning_11 (by decide) (fun c4 => ?_) (fun c4 => ?_)
  · have hsp := itF hsp c4
    refine lv_iload_n hx hb dX5_bestThinning_16 rfl (lv_at hl 3 rfl) ?_
    refine lv_iconst (v := 0) hx hb dX5_bestThinning_17 (by decide) ?_
    refine lv_iconst (v := 1) hx hb dX5_bestThinning_18 (by decide) ?_
    obtain ⟨r5, hcr5, hsp⟩ := clE hsp
    refine call_z (w1 := []) (ws' := [(a0, .inr (5, [.ref a1, w0_1, w0_2, w0_3, w0_4, w0_5, .ref a7, w0_7, w0_8, w0_9, w0_10, w0_11, w0_12])), (a1, .inl (cI, 99, .inl f1)), (a7, .inl (cI, 3, .inl f7))]) (va_runS (As := [.int u3, .int 0, .int 1]) (rest := []) ⟨hx, hb, hml, hown, hts⟩ (k_X5_in l D cI cZ cC cS H.size u3 0 1 r5 hcr5) (va_cwS 3 hts gX5_bestThinning_X5_in rfl rfl rfl nd_X5_in.2 ⟨Nat.le_of_ble_eq_true rfl, Nat.le_of_ble_eq_true rfl⟩) (PB.preS hKU hP hD [] rfl rfl) rfl rfl hl.1 rfl (lv_room (Nat.le_of_ble_eq_true rfl)) dX5_bestThinning_19 ⟨Nat.zero_le _, Nat.zero_le _⟩) hS hP hD hA [] rfl rfl (by first | (simp only [wset, List.set_cons_zero, List.set_cons_succ]; done) | rfl) rfl (fun H locs hP hD hS hzr5 => ?_)
    refine lv_if_ne (tgt := 28) hx hb dX5_bestThinning_22 (by decide) (fun c6 => ?_) (fun c6 => ?_)
    · have hsp := itF hsp c6
      refine lv_aload_n hx hb dX5_bestThinning_28 rfl (lv_at hl 0 rfl) ?_
      refine lv_iload_n hx hb dX5_bestThinning_29 rfl (lv_at hl 2 rfl) ?_
      obtain ⟨r7, hcr7, hsp⟩ := clE hsp
      refine call_i (w1 := []) (ws' := [(a0, .inr (5, [.ref a1, w0_1, w0_2, w0_3, w0_4, w0_5, .ref a7, w0_7, w0_8, w0_9, w0_10, w0_11, w0_12])), (a1, .inl (cI, 99, .inl f1)), (a7, .inl (cI, 3, .inl f7))]) (va_runS (As := [.int u2]) (rest := [.ref a0]) ⟨hx, hb, hml, hown, hts⟩ (k_X5_p l D cI cZ cC cS H.size u2 r7 hcr7) (va_cwS 1 hts gX5_bestThinning_X5_p rfl rfl rfl nd_X5_p.2 ⟨Nat.le_of_ble_eq_true rfl, Nat.le_of_ble_eq_true rfl⟩) (PB.preS hKU hP hD [] rfl rfl) rfl rfl hl.1 rfl (lv_room (Nat.le_of_ble_eq_true rfl)) dX5_bestThinning_30 ⟨Nat.zero_le _, Nat.zero_le _⟩) hS hP hD hA [] rfl rfl (by first | (simp only [wset, List.set_cons_zero, List.set_cons_succ]; done) | rfl) rfl (fun H locs hP hD hS => ?_)
      obtain ⟨r8, hcr8, hsp⟩ := clE hsp
      refine call_i (w1 := [(a0, .inr (5, [.ref a1, w0_1, w0_2, w0_3, w0_4, w0_5, .ref a7, w0_7, w0_8, w0_9, w0_10, w0_11, w0_12])), (a1, .inl (cI, 99, .inl f1))]) (ws' := [(a0, .inr (5, [.ref a1, w0_1, w0_2, w0_3, w0_4, w0_5, .ref a7, w0_7, w0_8, w0_9, w0_10, w0_11, w0_12])), (a1, .inl (cI, 99, .inl f1)), (a7, .inl (cI, 3, .inl f7))]) (va_runV (As := [.int r7]) (rest := []) ⟨hx, hb, hml, hown, hts⟩ (k_X5_drops l D cI cZ cC cS H.size a0 a1 (w0_1) (w0_2) (w0_3) (w0_4) (w0_5) (.ref a7) (w0_7) (w0_8) (w0_9) (w0_10) (w0_11) (w0_12) f1 r7 r8 hcr8) (cwV 1 hts gX5_bestThinning_X5_drops rfl rfl rfl nd_X5_drops ⟨Nat.le_of_ble_eq_true rfl, Nat.le_of_ble_eq_true rfl⟩) (PB.preV (ci := 5) (q0 := 0) hKU hP hD [0, 1] rfl rfl rfl rfl) rfl rfl hl.1 rfl (lv_room (Nat.le_of_ble_eq_true rfl)) dX5_bestThinning_33 ⟨Nat.zero_le _, Nat.zero_le _⟩) hS hP hD hA [0, 1] rfl rfl (by first | (simp only [wset, List.set_cons_zero, List.set_cons_succ]; done) | rfl) rfl (fun H locs hP hD hS => ?_)
      refine lv_istore (lv' := [(4, .int r8), (0, .ref a0), (1, .int u1), (2, .int u2), (3, .int u3)]) hx hb dX5_bestThinning_36 hl (by decide) rfl (fun ls hl => ?_)
      refine lv_iload hx hb dX5_bestThinning_38 (lv_at hl 0 rfl) ?_
      refine lv_if_ne (tgt := 46) hx hb dX5_bestThinning_40 (by decide) (fun c9 => ?_) (fun c9 => ?_)
      · have hsp := itF hsp c9
        refine lv_iconst (v := 0) hx hb dX5_bestThinning_46 (by decide) ?_
        refine lv_istore (lv' := [(5, .int 0), (4, .int r8), (0, .ref a0), (1, .int u1), (2, .int u2), (3, .int u3)]) hx hb dX5_bestThinning_47 hl (by decide) rfl (fun ls hl => ?_)
        refine lv_sipush (v := 1000) hx hb dX5_bestThinning_49 (by decide) ?_
        refine lv_istore (lv' := [(6, .int 1000), (5, .int 0), (4, .int r8), (0, .ref a0), (1, .int u1), (2, .int u2), (3, .int u3)]) hx hb dX5_bestThinning_52 hl (by decide) rfl (fun ls hl => ?_)
        refine lv_iconst (v := 0) hx hb dX5_bestThinning_54 (by decide) ?_
        refine lv_istore (lv' := [(7, .int 0), (6, .int 1000), (5, .int 0), (4, .int r8), (0, .ref a0), (1, .int u1), (2, .int u2), (3, .int u3)]) hx hb dX5_bestThinning_55 hl (by decide) rfl (fun ls hl => ?_)
        refine lv_iload hx hb dX5_bestThinning_57 (lv_at hl 3 rfl) ?_
        refine lv_istore (lv' := [(8, .int r8), (7, .int 0), (6, .int 1000), (5, .int 0), (4, .int r8), (0, .ref a0), (1, .int u1), (2, .int u2), (3, .int u3)]) hx hb dX5_bestThinning_59 hl (by decide) rfl (fun ls hl => ?_)
        refine ex_rule (D := D) (K := s_X5_bestThinning_X1 u3) (P := fun (t1 : Int32 × Int32 × (Nat → Int32)) => [(a0, .inr (5, [.ref a1, w0_1, w0_2, w0_3, w0_4, w0_5, .ref a7, w0_7, w0_8, w0_9, w0_10, w0_11, w0_12])), (a1, .inl (cI, 99, .inl f1)), (a7, .inl (cI, 3, .inl t1.2.2))]) (L := fun (t1 : Int32 × Int32 × (Nat → Int32)) => [(3, .int u3), (5, .int t1.1), (6, .int t1.2.1)]) (nL := 10) (pcx := 159) (res := res) (A := A) (H0 := s.heap) ?_ (fun hx1 => ?_)
        · intro t1 H locs hsp hP hD hS ls hl
          obtain ⟨x15, x16, y17⟩ := t1
          unfold s_X5_bestThinning_X1 at hsp; try dsimp only at hsp
          have hP : va_P D vwCl [(a0, .inr (5, [.ref a1, w0_1, w0_2, w0_3, w0_4, w0_5, .ref a7, w0_7, w0_8, w0_9, w0_10, w0_11, w0_12])), (a1, .inl (cI, 99, .inl f1)), (a7, .inl (cI, 3, .inl y17))] H := hP
          have hD : va_D A [(a0, .inr (5, [.ref a1, w0_1, w0_2, w0_3, w0_4, w0_5, .ref a7, w0_7, w0_8, w0_9, w0_10, w0_11, w0_12])), (a1, .inl (cI, 99, .inl f1)), (a7, .inl (cI, 3, .inl y17))] := hD
          have hl : lv_has ls 10 [(3, .int u3), (5, .int x15), (6, .int x16)] := hl
          refine lv_iload_n hx hb dX5_bestThinning_159 rfl (lv_at hl 0 rfl) ?_
          refine lv_if_ne (tgt := 168) hx hb dX5_bestThinning_160 (by decide) (fun c18 => ?_) (fun c18 => ?_)
          · have hsp := itF hsp c18
            refine lv_iload hx hb dX5_bestThinning_168 (lv_at hl 2 rfl) ?_
            have hres := Option.some.inj hsp
            subst hres
            exact W.iret (v := x16) hx hb hr (fun t ht hW => ⟨⟨x16, (), rfl, rfl, P_at ht hP⟩, hS.F ht⟩) hS.2.2 dX5_bestThinning_170
          have hsp := itT hsp c18
          refine lv_iload hx hb dX5_bestThinning_163 (lv_at hl 1 rfl) ?_
          refine lv_goto (tgt := 170) hx hb dX5_bestThinning_165 (by decide) ?_
          have hres := Option.some.inj hsp
          subst hres
          exact W.iret (v := x15) hx hb hr (fun t ht hW => ⟨⟨x15, (), rfl, rfl, P_at ht hP⟩, hS.F ht⟩) hS.2.2 dX5_bestThinning_170
        have hl := lv_sub hl (l' := [(0, .ref a0), (1, .int u1), (2, .int u2), (3, .int u3), (5, .int 0), (6, .int 1000), (7, .int 0), (8, .int r8)]) [5, 6, 7, 8, 3, 2, 1, 0] rfl
        refine lp_rule (D := D) (F := s_X5_bestThinning_L1 u2 f1 u1 (s_X5_bestThinning_X1 u3)) (P := fun (tv : Int32 × Int32 × Int32 × Int32 × (Nat → Int32)) => [(a0, .inr (5, [.ref a1, w0_1, w0_2, w0_3, w0_4, w0_5, .ref a7, w0_7, w0_8, w0_9, w0_10, w0_11, w0_12])), (a1, .inl (cI, 99, .inl f1)), (a7, .inl (cI, 3, .inl tv.2.2.2.2))]) (L := fun (tv : Int32 × Int32 × Int32 × Int32 × (Nat → Int32)) => [(0, .ref a0), (1, .int u1), (2, .int u2), (3, .int u3), (5, .int tv.1), (6, .int tv.2.1), (7, .int tv.2.2.1), (8, .int tv.2.2.2.1)]) (nL := 10) (res := res) (A := A) (H0 := s.heap) (fun _ => rfl) ?_ 1000 (0, 1000, 0, r8, f7) _ _ hsp hP hD hS _ hl
        · intro n1 ih1 tv H locs hsp hP hD hS ls hl
          obtain ⟨x10, x11, x12, x13, y14⟩ := tv
          have hsp : s_X5_bestThinning_B1  u2 f1 u1 (s_X5_bestThinning_X1 u3) (s_X5_bestThinning_L1 u2 f1 u1 (s_X5_bestThinning_X1 u3) n1) x10 x11 x12 x13 y14 = some res := hsp
          unfold s_X5_bestThinning_B1 at hsp
          have hP : va_P D vwCl [(a0, .inr (5, [.ref a1, w0_1, w0_2, w0_3, w0_4, w0_5, .ref a7, w0_7, w0_8, w0_9, w0_10, w0_11, w0_12])), (a1, .inl (cI, 99, .inl f1)), (a7, .inl (cI, 3, .inl y14))] H := hP
          have hD : va_D A [(a0, .inr (5, [.ref a1, w0_1, w0_2, w0_3, w0_4, w0_5, .ref a7, w0_7, w0_8, w0_9, w0_10, w0_11, w0_12])), (a1, .inl (cI, 99, .inl f1)), (a7, .inl (cI, 3, .inl y14))] := hD
          have hl : lv_has ls 10 [(0, .ref a0), (1, .int u1), (2, .int u2), (3, .int u3), (5, .int x10), (6, .int x11), (7, .int x12), (8, .int x13)] := hl
          refine lv_iload hx hb dX5_bestThinning_61 (lv_at hl 7 rfl) ?_
          refine lv_bipush (v := 81) hx hb dX5_bestThinning_63 (by decide) ?_
          refine lv_icmp_gt (tgt := 159) hx hb dX5_bestThinning_65 (by decide) (fun c19 => ?_) (fun c19 => ?_)
          · have hsp := itT hsp c19
            exact hx1 (x10, x11, y14) _ _ hsp hP hD hS _ (lv_sub hl [3, 4, 5] rfl)
          have hsp := itF hsp c19
          refine lv_iconst (v := 0) hx hb dX5_bestThinning_68 (by decide) ?_
          refine lv_istore (lv' := [(9, .int 0), (0, .ref a0), (1, .int u1), (2, .int u2), (3, .int u3), (5, .int x10), (6, .int x11), (7, .int x12), (8, .int x13)]) hx hb dX5_bestThinning_69 hl (by decide) rfl (fun ls hl => ?_)
          refine ex_rule (D := D) (K := s_X5_bestThinning_X2 (s_X5_bestThinning_L1 u2 f1 u1 (s_X5_bestThinning_X1 u3) n1) f1 u1 x11 x12 x13 x10) (P := fun (t2 : (Nat → Int32)) => [(a0, .inr (5, [.ref a1, w0_1, w0_2, w0_3, w0_4, w0_5, .ref a7, w0_7, w0_8, w0_9, w0_10, w0_11, w0_12])), (a1, .inl (cI, 99, .inl f1)), (a7, .inl (cI, 3, .inl t2))]) (L := fun (t2 : (Nat → Int32)) => [(0, .ref a0), (1, .int u1), (2, .int u2), (3, .int u3), (5, .int x10), (6, .int x11), (7, .int x12), (8, .int x13)]) (nL := 10) (pcx := 108) (res := res) (A := A) (H0 := s.heap) ?_ (fun hx2 => ?_)
          · intro t2 H locs hsp hP hD hS ls hl
            obtain ⟨y22, rfl⟩ : ∃ z, z = t2 := ⟨_, rfl⟩
            unfold s_X5_bestThinning_X2 at hsp; try dsimp only at hsp
            have hP : va_P D vwCl [(a0, .inr (5, [.ref a1, w0_1, w0_2, w0_3, w0_4, w0_5, .ref a7, w0_7, w0_8, w0_9, w0_10, w0_11, w0_12])), (a1, .inl (cI, 99, .inl f1)), (a7, .inl (cI, 3, .inl y22))] H := hP
            have hD : va_D A [(a0, .inr (5, [.ref a1, w0_1, w0_2, w0_3, w0_4, w0_5, .ref a7, w0_7, w0_8, w0_9, w0_10, w0_11, w0_12])), (a1, .inl (cI, 99, .inl f1)), (a7, .inl (cI, 3, .inl y22))] := hD
            have hl : lv_has ls 10 [(0, .ref a0), (1, .int u1), (2, .int u2), (3, .int u3), (5, .int x10), (6, .int x11), (7, .int x12), (8, .int x13)] := hl
            refine lv_aload_n hx hb dX5_bestThinning_108 rfl (lv_at hl 0 rfl) ?_
            refine lv_iload_n hx hb dX5_bestThinning_109 rfl (lv_at hl 1 rfl) ?_
            obtain ⟨r23, hcr23, hsp⟩ := clE hsp
            refine call_i (w1 := [(a0, .inr (5, [.ref a1, w0_1, w0_2, w0_3, w0_4, w0_5, .ref a7, w0_7, w0_8, w0_9, w0_10, w0_11, w0_12])), (a1, .inl (cI, 99, .inl f1)), (a7, .inl (cI, 3, .inl y22))]) (ws' := [(a0, .inr (5, [.ref a1, w0_1, w0_2, w0_3, w0_4, w0_5, .ref a7, w0_7, w0_8, w0_9, w0_10, w0_11, w0_12])), (a1, .inl (cI, 99, .inl f1)), (a7, .inl (cI, 3, .inl y22))]) (va_runV (As := [.int u1]) (rest := []) ⟨hx, hb, hml, hown, hts⟩ (k_X5_distance l D cI cZ cC cS H.size a0 a1 a7 (w0_1) (w0_2) (w0_3) (w0_4) (w0_5) (w0_7) (w0_8) (w0_9) (w0_10) (w0_11) (w0_12) f1 y22 u1 r23 hcr23) (cwV 1 hts gX5_bestThinning_X5_distance rfl rfl rfl nd_X5_distance ⟨Nat.le_of_ble_eq_true rfl, Nat.le_of_ble_eq_true rfl⟩) (PB.preV (ci := 5) (q0 := 0) hKU hP hD [0, 1, 2] rfl rfl rfl rfl) rfl rfl hl.1 rfl (lv_room (Nat.le_of_ble_eq_true rfl)) dX5_bestThinning_110 ⟨Nat.zero_le _, Nat.zero_le _⟩) hS hP hD hA [0, 1, 2] rfl rfl (by first | (simp only [wset, List.set_cons_zero, List.set_cons_succ]; done) | rfl) rfl (fun H locs hP hD hS => ?_)
            refine lv_istore (lv' := [(9, .int r23), (0, .ref a0), (1, .int u1), (2, .int u2), (3, .int u3), (5, .int x10), (6, .int x11), (7, .int x12), (8, .int x13)]) hx hb dX5_bestThinning_113 hl (by decide) rfl (fun ls hl => ?_)
            refine lv_iload hx hb dX5_bestThinning_115 (lv_at hl 0 rfl) ?_
            refine lv_iload hx hb dX5_bestThinning_117 (lv_at hl 6 rfl) ?_
            refine lv_icmp_ge (tgt := 127) hx hb dX5_bestThinning_119 (by decide) (fun c24 => ?_) (fun c24 => ?_)
            · have hsp := itT hsp c24
              refine lv_iload hx hb dX5_bestThinning_127 (lv_at hl 5 rfl) ?_
              refine lv_istore (lv' := [(5, .int x10), (9, .int r23), (0, .ref a0), (1, .int u1), (2, .int u2), (3, .int u3), (6, .int x11), (7, .int x12), (8, .int x13)]) hx hb dX5_bestThinning_129 hl (by decide) rfl (fun ls hl => ?_)
              refine lv_iload hx hb dX5_bestThinning_131 (lv_at hl 1 rfl) ?_
              refine lv_iload hx hb dX5_bestThinning_133 (lv_at hl 6 rfl) ?_
              refine lv_icmp_ge (tgt := 143) hx hb dX5_bestThinning_135 (by decide) (fun c25 => ?_) (fun c25 => ?_)
              · have hsp := itT hsp c25
                refine lv_iload hx hb dX5_bestThinning_143 (lv_at hl 6 rfl) ?_
                refine lv_istore (lv' := [(6, .int x11), (5, .int x10), (9, .int r23), (0, .ref a0), (1, .int u1), (2, .int u2), (3, .int u3), (7, .int x12), (8, .int x13)]) hx hb dX5_bestThinning_145 hl (by decide) rfl (fun ls hl => ?_)
                obtain ⟨x26, ex26, hsp⟩ := nmE hsp
                refine lv_iinc (k := 7) (v := x26) (lv' := [(7, .int x26), (6, .int x11), (5, .int x10), (9, .int r23), (0, .ref a0), (1, .int u1), (2, .int u2), (3, .int u3), (8, .int x13)]) hx hb dX5_bestThinning_147 hl rfl (by rw [ex26]; rfl) (by decide) rfl (fun ls hl => ?_)
                refine lv_iload hx hb dX5_bestThinning_150 (lv_at hl 8 rfl) ?_
                refine lv_iconst (v := 3) hx hb dX5_bestThinning_152 (by decide) ?_
                refine lv_imul hx hb dX5_bestThinning_153 ?_
                obtain ⟨x27, ex27, hsp⟩ := nmE hsp
                refine r_top ex27 ?_
                refine lv_istore (lv' := [(8, .int x27), (7, .int x26), (6, .int x11), (5, .int x10), (9, .int r23), (0, .ref a0), (1, .int u1), (2, .int u2), (3, .int u3)]) hx hb dX5_bestThinning_154 hl (by decide) rfl (fun ls hl => ?_)
                refine lv_goto (tgt := 61) hx hb dX5_bestThinning_156 (by decide) ?_
                exact ih1 (x10, x11, x26, x27, y22) _ _ hsp hP hD hS _ (lv_sub hl [5, 6, 7, 8, 3, 2, 1, 0] rfl)
              have hsp := itF hsp c25
              refine lv_iload hx hb dX5_bestThinning_138 (lv_at hl 1 rfl) ?_
              refine lv_goto (tgt := 145) hx hb dX5_bestThinning_140 (by decide) ?_
              refine lv_istore (lv' := [(6, .int r23), (5, .int x10), (9, .int r23), (0, .ref a0), (1, .int u1), (2, .int u2), (3, .int u3), (7, .int x12), (8, .int x13)]) hx hb dX5_bestThinning_145 hl (by decide) rfl (fun ls hl => ?_)
              obtain ⟨x28, ex28, hsp⟩ := nmE hsp
              refine lv_iinc (k := 7) (v := x28) (lv' := [(7, .int x28), (6, .int r23), (5, .int x10), (9, .int r23), (0, .ref a0), (1, .int u1), (2, .int u2), (3, .int u3), (8, .int x13)]) hx hb dX5_bestThinning_147 hl rfl (by rw [ex28]; rfl) (by decide) rfl (fun ls hl => ?_)
              refine lv_iload hx hb dX5_bestThinning_150 (lv_at hl 8 rfl) ?_
              refine lv_iconst (v := 3) hx hb dX5_bestThinning_152 (by decide) ?_
              refine lv_imul hx hb dX5_bestThinning_153 ?_
              obtain ⟨x29, ex29, hsp⟩ := nmE hsp
              refine r_top ex29 ?_
              refine lv_istore (lv' := [(8, .int x29), (7, .int x28), (6, .int r23), (5, .int x10), (9, .int r23), (0, .ref a0), (1, .int u1), (2, .int u2), (3, .int u3)]) hx hb dX5_bestThinning_154 hl (by decide) rfl (fun ls hl => ?_)
              refine lv_goto (tgt := 61) hx hb dX5_bestThinning_156 (by decide) ?_
              exact ih1 (x10, r23, x28, x29, y22) _ _ hsp hP hD hS _ (lv_sub hl [5, 6, 7, 8, 3, 2, 1, 0] rfl)
            have hsp := itF hsp c24
            refine lv_iload hx hb dX5_bestThinning_122 (lv_at hl 7 rfl) ?_
            refine lv_goto (tgt := 129) hx hb dX5_bestThinning_124 (by decide) ?_
            refine lv_istore (lv' := [(5, .int x12), (9, .int r23), (0, .ref a0), (1, .int u1), (2, .int u2), (3, .int u3), (6, .int x11), (7, .int x12), (8, .int x13)]) hx hb dX5_bestThinning_129 hl (by decide) rfl (fun ls hl => ?_)
            refine lv_iload hx hb dX5_bestThinning_131 (lv_at hl 1 rfl) ?_
            refine lv_iload hx hb dX5_bestThinning_133 (lv_at hl 6 rfl) ?_
            refine lv_icmp_ge (tgt := 143) hx hb dX5_bestThinning_135 (by decide) (fun c30 => ?_) (fun c30 => ?_)
            · have hsp := itT hsp c30
              refine lv_iload hx hb dX5_bestThinning_143 (lv_at hl 6 rfl) ?_
              refine lv_istore (lv' := [(6, .int x11), (5, .int x12), (9, .int r23), (0, .ref a0), (1, .int u1), (2, .int u2), (3, .int u3), (7, .int x12), (8, .int x13)]) hx hb dX5_bestThinning_145 hl (by decide) rfl (fun ls hl => ?_)
              obtain ⟨x31, ex31, hsp⟩ := nmE hsp
              refine lv_iinc (k := 7) (v := x31) (lv' := [(7, .int x31), (6, .int x11), (5, .int x12), (9, .int r23), (0, .ref a0), (1, .int u1), (2, .int u2), (3, .int u3), (8, .int x13)]) hx hb dX5_bestThinning_147 hl rfl (by rw [ex31]; rfl) (by decide) rfl (fun ls hl => ?_)
              refine lv_iload hx hb dX5_bestThinning_150 (lv_at hl 8 rfl) ?_
              refine lv_iconst (v := 3) hx hb dX5_bestThinning_152 (by decide) ?_
              refine lv_imul hx hb dX5_bestThinning_153 ?_
              obtain ⟨x32, ex32, hsp⟩ := nmE hsp
              refine r_top ex32 ?_
              refine lv_istore (lv' := [(8, .int x32), (7, .int x31), (6, .int x11), (5, .int x12), (9, .int r23), (0, .ref a0), (1, .int u1), (2, .int u2), (3, .int u3)]) hx hb dX5_bestThinning_154 hl (by decide) rfl (fun ls hl => ?_)
              refine lv_goto (tgt := 61) hx hb dX5_bestThinning_156 (by decide) ?_
              exact ih1 (x12, x11, x31, x32, y22) _ _ hsp hP hD hS _ (lv_sub hl [5, 6, 7, 8, 3, 2, 1, 0] rfl)
            have hsp := itF hsp c30
            refine lv_iload hx hb dX5_bestThinning_138 (lv_at hl 1 rfl) ?_
            refine lv_goto (tgt := 145) hx hb dX5_bestThinning_140 (by decide) ?_
            refine lv_istore (lv' := [(6, .int r23), (5, .int x12), (9, .int r23), (0, .ref a0), (1, .int u1), (2, .int u2), (3, .int u3), (7, .int x12), (8, .int x13)]) hx hb dX5_bestThinning_145 hl (by decide) rfl (fun ls hl => ?_)
            obtain ⟨x33, ex33, hsp⟩ := nmE hsp
            refine lv_iinc (k := 7) (v := x33) (lv' := [(7, .int x33), (6, .int r23), (5, .int x12), (9, .int r23), (0, .ref a0), (1, .int u1), (2, .int u2), (3, .int u3), (8, .int x13)]) hx hb dX5_bestThinning_147 hl rfl (by rw [ex33]; rfl) (by decide) rfl (fun ls hl => ?_)
            refine lv_iload hx hb dX5_bestThinning_150 (lv_at hl 8 rfl) ?_
            refine lv_iconst (v := 3) hx hb dX5_bestThinning_152 (by decide) ?_
            refine lv_imul hx hb dX5_bestThinning_153 ?_
            obtain ⟨x34, ex34, hsp⟩ := nmE hsp
            refine r_top ex34 ?_
            refine lv_istore (lv' := [(8, .int x34), (7, .int x33), (6, .int r23), (5, .int x12), (9, .int r23), (0, .ref a0), (1, .int u1), (2, .int u2), (3, .int u3)]) hx hb dX5_bestThinning_154 hl (by decide) rfl (fun ls hl => ?_)
            refine lv_goto (tgt := 61) hx hb dX5_bestThinning_156 (by decide) ?_
            exact ih1 (x12, r23, x33, x34, y22) _ _ hsp hP hD hS _ (lv_sub hl [5, 6, 7, 8, 3, 2, 1, 0] rfl)
          have hl := lv_sub hl (l' := [(0, .ref a0), (1, .int u1), (2, .int u2), (3, .int u3), (5, .int x10), (6, .int x11), (7, .int x12), (8, .int x13), (9, .int 0)]) [1, 2, 3, 4, 5, 6, 7, 8, 0] rfl
          refine lp_rule (D := D) (F := s_X5_bestThinning_L2 u2 f1 x13 (s_X5_bestThinning_X2 (s_X5_bestThinning_L1 u2 f1 u1 (s_X5_bestThinning_X1 u3) n1) f1 u1 x11 x12 x13 x10)) (P := fun (tv : Int32 × (Nat → Int32)) => [(a0, .inr (5, [.ref a1, w0_1, w0_2, w0_3, w0_4, w0_5, .ref a7, w0_7, w0_8, w0_9, w0_10, w0_11, w0_12])), (a1, .inl (cI, 99, .inl f1)), (a7, .inl (cI, 3, .inl tv.2))]) (L := fun (tv : Int32 × (Nat → Int32)) => [(0, .ref a0), (1, .int u1), (2, .int u2), (3, .int u3), (5, .int x10), (6, .int x11), (7, .int x12), (8, .int x13), (9, .int tv.1)]) (nL := 10) (res := res) (A := A) (H0 := s.heap) (fun _ => rfl) ?_ 1000 (0, y14) _ _ hsp hP hD hS _ hl
          · intro n2 ih2 tv H locs hsp hP hD hS ls hl
            obtain ⟨x20, y21⟩ := tv
            have hsp : s_X5_bestThinning_B2  u2 f1 x13 (s_X5_bestThinning_X2 (s_X5_bestThinning_L1 u2 f1 u1 (s_X5_bestThinning_X1 u3) n1) f1 u1 x11 x12 x13 x10) (s_X5_bestThinning_L2 u2 f1 x13 (s_X5_bestThinning_X2 (s_X5_bestThinning_L1 u2 f1 u1 (s_X5_bestThinning_X1 u3) n1) f1 u1 x11 x12 x13 x10) n2) x20 y21 = some res := hsp
            unfold s_X5_bestThinning_B2 at hsp
            have hP : va_P D vwCl [(a0, .inr (5, [.ref a1, w0_1, w0_2, w0_3, w0_4, w0_5, .ref a7, w0_7, w0_8, w0_9, w0_10, w0_11, w0_12])), (a1, .inl (cI, 99, .inl f1)), (a7, .inl (cI, 3, .inl y21))] H := hP
            have hD : va_D A [(a0, .inr (5, [.ref a1, w0_1, w0_2, w0_3, w0_4, w0_5, .ref a7, w0_7, w0_8, w0_9, w0_10, w0_11, w0_12])), (a1, .inl (cI, 99, .inl f1)), (a7, .inl (cI, 3, .inl y21))] := hD
            have hl : lv_has ls 10 [(0, .ref a0), (1, .int u1), (2, .int u2), (3, .int u3), (5, .int x10), (6, .int x11), (7, .int x12), (8, .int x13), (9, .int x20)] := hl
            refine lv_iload hx hb dX5_bestThinning_71 (lv_at hl 8 rfl) ?_
            refine lv_iconst (v := 3) hx hb dX5_bestThinning_73 (by decide) ?_
            refine lv_icmp_ge (tgt := 108) hx hb dX5_bestThinning_74 (by decide) (fun c35 => ?_) (fun c35 => ?_)
            · have hsp := itT hsp c35
              exact hx2 y21 _ _ hsp hP hD hS _ (lv_sub hl [0, 1, 2, 3, 4, 5, 6, 7] rfl)
            have hsp := itF hsp c35
            refine lv_aload_n hx hb dX5_bestThinning_77 rfl (lv_at hl 0 rfl) ?_
            refine va_get (D := D) (ci := 5) (v := .ref a7) (C := RX5) (T := TX5) (N := 13) hx hb hts hi_X5 hown hK hP 0 rfl rfl 6 (by decide) hf_29 (fun _ h9 => h9) rfl dX5_bestThinning_78 ?_
            refine lv_iload hx hb dX5_bestThinning_81 (lv_at hl 8 rfl) ?_
            refine lv_bipush (v := 100) hx hb dX5_bestThinning_83 (by decide) ?_
            refine lv_aload_n hx hb dX5_bestThinning_85 rfl (lv_at hl 0 rfl) ?_
            refine va_get (D := D) (ci := 5) (v := .ref a1) (C := RX5) (T := TX5) (N := 13) hx hb hts hi_X5 hown hK hP 0 rfl rfl 0 (by decide) hf_7 (fun _ h9 => h9) rfl dX5_bestThinning_86 ?_
            refine lv_iload_n hx hb dX5_bestThinning_89 rfl (lv_at hl 2 rfl) ?_
            obtain ⟨r36, hcr36, hsp⟩ := clE hsp
            refine call_i (w1 := []) (ws' := [(a0, .inr (5, [.ref a1, w0_1, w0_2, w0_3, w0_4, w0_5, .ref a7, w0_7, w0_8, w0_9, w0_10, w0_11, w0_12])), (a1, .inl (cI, 99, .inl f1)), (a7, .inl (cI, 3, .inl y21))]) (va_runS (As := [.int u2]) (rest := [.ref a1, .int 100, .int x20, .ref a7]) ⟨hx, hb, hml, hown, hts⟩ (k_X5_p l D cI cZ cC cS H.size u2 r36 hcr36) (va_cwS 1 hts gX5_bestThinning_X5_p rfl rfl rfl nd_X5_p.2 ⟨Nat.le_of_ble_eq_true rfl, Nat.le_of_ble_eq_true rfl⟩) (PB.preS hKU hP hD [] rfl rfl) rfl rfl hl.1 rfl (lv_room (Nat.le_of_ble_eq_true rfl)) dX5_bestThinning_90 ⟨Nat.zero_le _, Nat.zero_le _⟩) hS hP hD hA [] rfl rfl (by first | (simp only [wset, List.set_cons_zero, List.set_cons_succ]; done) | rfl) rfl (fun H locs hP hD hS => ?_)
            refine lv_iload hx hb dX5_bestThinning_93 (lv_at hl 8 rfl) ?_
            refine lv_iadd hx hb dX5_bestThinning_95 ?_
            obtain ⟨x37, ex37, hnx37, hsp⟩ := ldE hsp
            refine r_iald hx hb hK hP 1 0 rfl rfl ex37 hnx37 dX5_bestThinning_96 ?_
            refine lv_imul hx hb dX5_bestThinning_97 ?_
            refine lv_iload hx hb dX5_bestThinning_98 (lv_at hl 7 rfl) ?_
            obtain ⟨x38, ex38, hnx38, hsp⟩ := dvE hsp
            refine lv_idiv hx hb dX5_bestThinning_100 hnx38 ?_
            refine r_top ex38 ?_
            obtain ⟨y39, ey39, hny39, hsp⟩ := stoE hsp
            refine r_iast (ws' := [(a0, .inr (5, [.ref a1, w0_1, w0_2, w0_3, w0_4, w0_5, .ref a7, w0_7, w0_8, w0_9, w0_10, w0_11, w0_12])), (a1, .inl (cI, 99, .inl f1)), (a7, .inl (cI, 3, .inl y39))]) hx hb hK hP hD hS 2 0 rfl rfl ey39 hny39 rfl dX5_bestThinning_101 (fun H locs hP hD hS => ?_)
            obtain ⟨x40, ex40, hsp⟩ := nmE hsp
            refine lv_iinc (k := 8) (v := x40) (lv' := [(9, .int x40), (0, .ref a0), (1, .int u1), (2, .int u2), (3, .int u3), (5, .int x10), (6, .int x11), (7, .int x12), (8, .int x13)]) hx hb dX5_bestThinning_102 hl rfl (by rw [ex40]; rfl) (by decide) rfl (fun ls hl => ?_)
            refine lv_goto (tgt := 71) hx hb dX5_bestThinning_105 (by decide) ?_
            exact ih2 (x40, y39) _ _ hsp hP hD hS _ (lv_sub hl [1, 2, 3, 4, 5, 6, 7, 8, 0] rfl)
      have hsp := itT hsp c9
      refine lv_bipush (v := (-5)) hx hb dX5_bestThinning_43 (by decide) ?_
      have hres := Option.some.inj hsp
      subst hres
      exact W.iret (v := (-5)) hx hb hr (fun t ht hW => ⟨⟨(-5), (), rfl, rfl, P_at ht hP⟩, hS.F ht⟩) hS.2.2 dX5_bestThinning_45
    have hsp := itT hsp c6
    refine lv_bipush (v := (-2)) hx hb dX5_bestThinning_25 (by decide) ?_
    have hres := Option.some.inj hsp
    subst hres
    exact W.iret (v := (-2)) hx hb hr (fun t ht hW => ⟨⟨(-2), (), rfl, rfl, P_at ht hP⟩, hS.F ht⟩) hS.2.2 dX5_bestThinning_27
  have hsp := itT hsp c4
  refine lv_iconst (v := (-1)) hx hb dX5_bestThinning_14 (by decide) ?_
  have hres := Option.some.inj hsp
  subst hres
  exact W.iret (v := (-1)) hx hb hr (fun t ht hW => ⟨⟨(-1), (), rfl, rfl, P_at ht hP⟩, hS.F ht⟩) hS.2.2 dX5_bestThinning_15

theorem nd_X5_ofPaint : yX5_ofPaint.cls = RX5 ∧ yX5_ofPaint.cls ≠ "java/lang/invoke/MethodHandle" ∧ yX5_ofPaint.cls ≠ "java/lang/invoke/VarHandle" ∧ (parseMethodDescriptor yX5_ofPaint.desc).map (fun d => d.parameters.length) = some 2 := by decide +kernel
set_option maxHeartbeats 8000000 in
set_option maxRecDepth 100000 in
theorem k_X5_ofPaint (l : Launch) (D : va_G) (cI cZ cC cS : ClassId) (sz : Nat) (a0 a1 : Nat) (w0_1 : Value) (w0_2 : Value) (w0_3 : Value) (w0_4 : Value) (w0_5 : Value) (w0_6 : Value) (w0_7 : Value) (w0_8 : Value) (w0_9 : Value) (w0_10 : Value) (w0_11 : Value) (w0_12 : Value) (f1 : Nat → Int32) (u1 : Int32) (u2 : Int32) (res : Int32) (hsp : s_X5_ofPaint f1 u1 u2 = some res) : Met l yX5_ofPaint wsX5_ofPaint ({ frames := 2, cells := 0, slots := 0, locals := 43 }) (va_Pc [.ref a0, .int u1, .int u2] (PB D cI cZ cC cS [(a0, .inr (5, [.ref a1, w0_1, w0_2, w0_3, w0_4, w0_5, w0_6, w0_7, w0_8, w0_9, w0_10, w0_11, w0_12])), (a1, .inl (cI, 99, .inl f1))] sz)) (va_Qi (fun r (_ : Unit) => r = res) (fun _ t => va_P D vwCl [(a0, .inr (5, [.ref a1, w0_1, w0_2, w0_3, w0_4, w0_5, w0_6, w0_7, w0_8, w0_9, w0_10, w0_11, w0_12])), (a1, .inl (cI, 99, .inl f1))] t.heap) (va_A [(a0, .inr (5, [.ref a1, w0_1, w0_2, w0_3, w0_4, w0_5, w0_6, w0_7, w0_8, w0_9, w0_10, w0_11, w0_12])), (a1, .inl (cI, 99, .inl f1))] sz)) 0 0 (va_A [(a0, .inr (5, [.ref a1, w0_1, w0_2, w0_3, w0_4, w0_5, w0_6, w0_7, w0_8, w0_9, w0_10, w0_11, w0_12])), (a1, .inl (cI, 99, .inl f1))] sz) := by
  refine Met.ofW (cc := cX5_ofPaint) (maxL := 3) (ret := (some .int)) (by decide) rfl ?_
  intro p e s m args below meth c s₁ B hml hv
  obtain ⟨rfl, hsz, hP, hD0, hKU⟩ := hv
  have hx := B.exec
  have hb := B.bytes
  have hr := B.returns
  have hts := atoms_spec (ws := wsX5_ofPaint) B.pre
  have hown : s.vm.findClass RX5 = some m.cls := findClass_of_methodNamed B.named
  have hlocks := B.notSynchronized
  have hK := hKU.1
  have hf_7 := hts (.fieldLink RX5 7 "ThinnedPotsModel" "s" "[I") (by decide +kernel)
  have hi_X5 : ∀ w ∈ u_ws RX5 TX5 13, w ∈ wsX5_ofPaint := by decide +kernel
  subst hsz
  have hD := hD0.self (sz := s.heap.size)
  generalize hAe : va_A [(a0, .inr (5, [.ref a1, w0_1, w0_2, w0_3, w0_4, w0_5, w0_6, w0_7, w0_8, w0_9, w0_10, w0_11, w0_12])), (a1, .inl (cI, 99, .inl f1))] s.heap.size = A at hD ⊢
  have hA : ∀ q : Nat, s.heap.size ≤ q → A q := fun q h => by rw [← hAe]; exact Or.inr h
  have hP : va_P D vwCl [(a0, .inr (5, [.ref a1, w0_1, w0_2, w0_3, w0_4, w0_5, w0_6, w0_7, w0_8, w0_9, w0_10, w0_11, w0_12])), (a1, .inl (cI, 99, .inl f1))] s.heap := hP
  generalize hHe : s.heap = H at hP ⊢
  have hS : va_S A s.heap H [] := by rw [hHe]; exact va_S.rf
  have hl := lv_entry ([.ref a0, .int u1, .int u2]) (n := 3) (Nat.le_of_ble_eq_true rfl)
  rw [lg_entry_eq]
  generalize (lg_sl ([.ref a0, .int u1, .int u2]) ++ List.replicate (3 - (lg_sl ([.ref a0, .int u1, .int u2])).length) Slot.unset).toArray = ls at hl ⊢
  have hl : lv_has ls 3 [(0, .ref a0), (1, .int u1), (2, .int u2)] := hl
  unfold s_X5_ofPaint at hsp
  refine lv_iload_n hx hb dX5_ofPaint_0 rfl (lv_at hl 2 rfl) ?_
  refine lv_iconst (v := 4) hx hb dX5_ofPaint_1 (by decide) ?_
  refine lv_icmp_ge (tgt := 16) hx hb dX5_ofPaint_2 (by decide) (fun c1 => ?_) (fun c1 => ?_)
  · have hsp := itT hsp c1
    refine lv_iload_n hx hb dX5_ofPaint_16 rfl (lv_at hl 2 rfl) ?_
    refine lv_iconst (v := 4) hx hb dX5_ofPaint_17 (by decide) ?_
    refine lv_icmp_ne (tgt := 29) hx hb dX5_ofPaint_18 (by decide) (fun c2 => ?_) (fun c2 => ?_)
    · have hsp := itF hsp c2
      refine lv_aload_n hx hb dX5_ofPaint_29 rfl (lv_at hl 0 rfl) ?_
      refine lv_iload_n hx hb dX5_ofPaint_30 rfl (lv_at hl 1 rfl) ?_
      obtain ⟨r3, hcr3, hsp⟩ := clE hsp
      refine call_i (w1 := [(a0, .inr (5, [.ref a1, w0_1, w0_2, w0_3, w0_4, w0_5, w0_6, w0_7, w0_8, w0_9, w0_10, w0_11, w0_12])), (a1, .inl (cI, 99, .inl f1))]) (ws' := [(a0, .inr (5, [.ref a1, w0_1, w0_2, w0_3, w0_4, w0_5, w0_6, w0_7, w0_8, w0_9, w0_10, w0_11, w0_12])), (a1, .inl (cI, 99, .inl f1))]) (va_runV (As := [.int u1]) (rest := []) ⟨hx, hb, hml, hown, hts⟩ (k_X5_drops l D cI cZ cC cS H.size a0 a1 (w0_1) (w0_2) (w0_3) (w0_4) (w0_5) (w0_6) (w0_7) (w0_8) (w0_9) (w0_10) (w0_11) (w0_12) f1 u1 r3 hcr3) (cwV 1 hts gX5_ofPaint_X5_drops rfl rfl rfl nd_X5_drops ⟨Nat.le_of_ble_eq_true rfl, Nat.le_of_ble_eq_true rfl⟩) (PB.preV (ci := 5) (q0 := 0) hKU hP hD [0, 1] rfl rfl rfl rfl) rfl rfl hl.1 rfl (lv_room (Nat.le_of_ble_eq_true rfl)) dX5_ofPaint_31 ⟨Nat.zero_le _, Nat.zero_le _⟩) hS hP hD hA [0, 1] rfl rfl (by first | (simp only [wset, List.set_cons_zero, List.set_cons_succ]; done) | rfl) rfl (fun H locs hP hD hS => ?_)
      refine lv_if_ne (tgt := 42) hx hb dX5_ofPaint_34 (by decide) (fun c4 => ?_) (fun c4 => ?_)
      · have hsp := itF hsp c4
        refine lv_aload_n hx hb dX5_ofPaint_42 rfl (lv_at hl 0 rfl) ?_
        refine lv_iload_n hx hb dX5_ofPaint_43 rfl (lv_at hl 1 rfl) ?_
        refine lv_iload_n hx hb dX5_ofPaint_44 rfl (lv_at hl 2 rfl) ?_
        refine lv_iconst (v := 5) hx hb dX5_ofPaint_45 (by decide) ?_
        refine lv_isub hx hb dX5_ofPaint_46 ?_
        obtain ⟨r5, hcr5, hsp⟩ := clE hsp
        refine call_i (w1 := [(a0, .inr (5, [.ref a1, w0_1, w0_2, w0_3, w0_4, w0_5, w0_6, w0_7, w0_8, w0_9, w0_10, w0_11, w0_12])), (a1, .inl (cI, 99, .inl f1))]) (ws' := [(a0, .inr (5, [.ref a1, w0_1, w0_2, w0_3, w0_4, w0_5, w0_6, w0_7, w0_8, w0_9, w0_10, w0_11, w0_12])), (a1, .inl (cI, 99, .inl f1))]) (va_runV (As := [.int u1, .int (u2 - 5)]) (rest := []) ⟨hx, hb, hml, hown, hts⟩ (k_X5_strength l D cI cZ cC cS H.size a0 a1 (w0_1) (w0_2) (w0_3) (w0_4) (w0_5) (w0_6) (w0_7) (w0_8) (w0_9) (w0_10) (w0_11) (w0_12) f1 u1 (u2 - 5) r5 hcr5) (cwV 2 hts gX5_ofPaint_X5_strength rfl rfl rfl nd_X5_strength ⟨Nat.le_of_ble_eq_true rfl, Nat.le_of_ble_eq_true rfl⟩) (PB.preV (ci := 5) (q0 := 0) hKU hP hD [0, 1] rfl rfl rfl rfl) rfl rfl hl.1 rfl (lv_room (Nat.le_of_ble_eq_true rfl)) dX5_ofPaint_47 ⟨Nat.zero_le _, Nat.zero_le _⟩) hS hP hD hA [0, 1] rfl rfl (by first | (simp only [wset, List.set_cons_zero, List.set_cons_succ]; done) | rfl) rfl (fun H locs hP hD hS => ?_)
        have hres := Option.some.inj hsp
        subst hres
        exact W.iret (v := r5) hx hb hr (fun t ht hW => ⟨⟨r5, (), rfl, rfl, P_at ht hP⟩, hS.F ht⟩) hS.2.2 dX5_ofPaint_50
      have hsp := itT hsp c4
      refine lv_bipush (v := (-6)) hx hb dX5_ofPaint_37 (by decide) ?_
      refine lv_goto (tgt := 50) hx hb dX5_ofPaint_39 (by decide) ?_
      have hres := Option.some.inj hsp
      subst hres
      exact W.iret (v := (-6)) hx hb hr (fun t ht hW => ⟨⟨(-6), (), rfl, rfl, P_at ht hP⟩, hS.F ht⟩) hS.2.2 dX5_ofPaint_50
    have hsp := itT hsp c2
    refine lv_aload_n hx hb dX5_ofPaint_21 rfl (lv_at hl 0 rfl) ?_
    refine lv_iload_n hx hb dX5_ofPaint_22 rfl (lv_at hl 1 rfl) ?_
    obtain ⟨r6, hcr6, hsp⟩ := clE hsp
    refine call_i (w1 := [(a0, .inr (5, [.ref a1, w0_1, w0_2, w0_3, w0_4, w0_5, w0_6, w0_7, w0_8, w0_9, w0_10, w0_11, w0_12])), (a1, .inl (cI, 99, .inl f1))]) (ws' := [(a0, .inr (5, [.ref a1, w0_1, w0_2, w0_3, w0_4, w0_5, w0_6, w0_7, w0_8, w0_9, w0_10, w0_11, w0_12])), (a1, .inl (cI, 99, .inl f1))]) (va_runV (As := [.int u1]) (rest := []) ⟨hx, hb, hml, hown, hts⟩ (k_X5_drops l D cI cZ cC cS H.size a0 a1 (w0_1) (w0_2) (w0_3) (w0_4) (w0_5) (w0_6) (w0_7) (w0_8) (w0_9) (w0_10) (w0_11) (w0_12) f1 u1 r6 hcr6) (cwV 1 hts gX5_ofPaint_X5_drops rfl rfl rfl nd_X5_drops ⟨Nat.le_of_ble_eq_true rfl, Nat.le_of_ble_eq_true rfl⟩) (PB.preV (ci := 5) (q0 := 0) hKU hP hD [0, 1] rfl rfl rfl rfl) rfl rfl hl.1 rfl (lv_room (Nat.le_of_ble_eq_true rfl)) dX5_ofPaint_23 ⟨Nat.zero_le _, Nat.zero_le _⟩) hS hP hD hA [0, 1] rfl rfl (by first | (simp only [wset, List.set_cons_zero, List.set_cons_succ]; done) | rfl) rfl (fun H locs hP hD hS => ?_)
    refine lv_goto (tgt := 50) hx hb dX5_ofPaint_26 (by decide) ?_
    have hres := Option.some.inj hsp
    subst hres
    exact W.iret (v := r6) hx hb hr (fun t ht hW => ⟨⟨r6, (), rfl, rfl, P_at ht hP⟩, hS.F ht⟩) hS.2.2 dX5_ofPaint_50
  have hsp := itF hsp c1
  refine lv_aload_n hx hb dX5_ofPaint_5 rfl (lv_at hl 0 rfl) ?_
  refine va_get (D := D) (ci := 5) (v := .ref a1) (C := RX5) (T := TX5) (N := 13) hx hb hts hi_X5 hown hK hP 0 rfl rfl 0 (by decide) hf_7 (fun _ h9 => h9) rfl dX5_ofPaint_6 ?_
  refine lv_iload_n hx hb dX5_ofPaint_9 rfl (lv_at hl 1 rfl) ?_
  refine lv_iload_n hx hb dX5_ofPaint_10 rfl (lv_at hl 2 rfl) ?_
  refine lv_iadd hx hb dX5_ofPaint_11 ?_
  obtain ⟨x7, ex7, hnx7, hsp⟩ := ldE hsp
  refine r_iald hx hb hK hP 1 0 rfl rfl ex7 hnx7 dX5_ofPaint_12 ?_
  refine lv_goto (tgt := 50) hx hb dX5_ofPaint_13 (by decide) ?_
  have hres := Option.some.inj hsp
  subst hres
  exact W.iret (v := x7) hx hb hr (fun t ht hW => ⟨⟨x7, (), rfl, rfl, P_at ht hP⟩, hS.F ht⟩) hS.2.2 dX5_ofPaint_50

theorem nd_X5_brush : yX5_brush.cls = RX5 ∧ yX5_brush.cls ≠ "java/lang/invoke/MethodHandle" ∧ yX5_brush.cls ≠ "java/lang/invoke/VarHandle" ∧ (parseMethodDescriptor yX5_brush.desc).map (fun d => d.parameters.length) = some 1 := by decide +kernel
set_option maxHeartbeats 8000000 in
set_option maxRecDepth 100000 in
theorem k_X5_brush (l : Launch) (D : va_G) (cI cZ cC cS : ClassId) (sz : Nat) (a0 a1 : Nat) (w0_1 : Value) (w0_2 : Value) (w0_3 : Value) (w0_4 : Value) (w0_5 : Value) (w0_6 : Value) (w0_7 : Value) (w0_8 : Value) (w0_9 : Value) (w0_10 : Value) (w0_11 : Value) (w0_12 : Value) (f1 : Nat → Int32) (u1 : Int32) (res : Int32) (hsp : s_X5_brush f1 u1 = some res) : Met l yX5_brush wsX5_brush ({ frames := 3, cells := 0, slots := 0, locals := 65 }) (va_Pc [.ref a0, .int u1] (PB D cI cZ cC cS [(a0, .inr (5, [.ref a1, w0_1, w0_2, w0_3, w0_4, w0_5, w0_6, w0_7, w0_8, w0_9, w0_10, w0_11, w0_12])), (a1, .inl (cI, 99, .inl f1))] sz)) (va_Qi (fun r (_ : Unit) => r = res) (fun _ t => va_P D vwCl [(a0, .inr (5, [.ref a1, w0_1, w0_2, w0_3, w0_4, w0_5, w0_6, w0_7, w0_8, w0_9, w0_10, w0_11, w0_12])), (a1, .inl (cI, 99, .inl f1))] t.heap) (va_A [(a0, .inr (5, [.ref a1, w0_1, w0_2, w0_3, w0_4, w0_5, w0_6, w0_7, w0_8, w0_9, w0_10, w0_11, w0_12])), (a1, .inl (cI, 99, .inl f1))] sz)) 0 0 (va_A [(a0, .inr (5, [.ref a1, w0_1, w0_2, w0_3, w0_4, w0_5, w0_6, w0_7, w0_8, w0_9, w0_10, w0_11, w0_12])), (a1, .inl (cI, 99, .inl f1))] sz) := by
  refine Met.ofW (cc := cX5_brush) (maxL := 2) (ret := (some .int)) (by decide) rfl ?_
  intro p e s m args below meth c s₁ B hml hv
  obtain ⟨rfl, hsz, hP, hD0, hKU⟩ := hv
  have hx := B.exec
  have hb := B.bytes
  have hr := B.returns
  have hts := atoms_spec (ws := wsX5_brush) B.pre
  have hown : s.vm.findClass RX5 = some m.cls := findClass_of_methodNamed B.named
  have hlocks := B.notSynchronized
  have hK := hKU.1
  subst hsz
  have hD := hD0.self (sz := s.heap.size)
  generalize hAe : va_A [(a0, .inr (5, [.ref a1, w0_1, w0_2, w0_3, w0_4, w0_5, w0_6, w0_7, w0_8, w0_9, w0_10, w0_11, w0_12])), (a1, .inl (cI, 99, .inl f1))] s.heap.size = A at hD ⊢
  have hA : ∀ q : Nat, s.heap.size ≤ q → A q := fun q h => by rw [← hAe]; exact Or.inr h
  have hP : va_P D vwCl [(a0, .inr (5, [.ref a1, w0_1, w0_2, w0_3, w0_4, w0_5, w0_6, w0_7, w0_8, w0_9, w0_10, w0_11, w0_12])), (a1, .inl (cI, 99, .inl f1))] s.heap := hP
  generalize hHe : s.heap = H at hP ⊢
  have hS : va_S A s.heap H [] := by rw [hHe]; exact va_S.rf
  have hl := lv_entry ([.ref a0, .int u1]) (n := 2) (Nat.le_of_ble_eq_true rfl)
  rw [lg_entry_eq]
  generalize (lg_sl ([.ref a0, .int u1]) ++ List.replicate (2 - (lg_sl ([.ref a0, .int u1])).length) Slot.unset).toArray = ls at hl ⊢
  have hl : lv_has ls 2 [(0, .ref a0), (1, .int u1)] := hl
  unfold s_X5_brush at hsp
  refine lv_iload_n hx hb dX5_brush_0 rfl (lv_at hl 1 rfl) ?_
  refine lv_iconst (v := 0) hx hb dX5_brush_1 (by decide) ?_
  refine lv_bipush (v := 7) hx hb dX5_brush_2 (by decide) ?_
  obtain ⟨r1, hcr1, hsp⟩ := clE hsp
  refine call_z (w1 := []) (ws' := [(a0, .inr (5, [.ref a1, w0_1, w0_2, w0_3, w0_4, w0_5, w0_6, w0_7, w0_8, w0_9, w0_10, w0_11, w0_12])), (a1, .inl (cI, 99, .inl f1))]) (va_runS (As := [.int u1, .int 0, .int 7]) (rest := []) ⟨hx, hb, hml, hown, hts⟩ (k_X5_in l D cI cZ cC cS H.size u1 0 7 r1 hcr1) (va_cwS 3 hts gX5_brush_X5_in rfl rfl rfl nd_X5_in.2 ⟨Nat.le_of_ble_eq_true rfl, Nat.le_of_ble_eq_true rfl⟩) (PB.preS hKU hP hD [] rfl rfl) rfl rfl hl.1 rfl (lv_room (Nat.le_of_ble_eq_true rfl)) dX5_brush_4 ⟨Nat.zero_le _, Nat.zero_le _⟩) hS hP hD hA [] rfl rfl (by first | (simp only [wset, List.set_cons_zero, List.set_cons_succ]; done) | rfl) rfl (fun H locs hP hD hS hzr1 => ?_)
  refine lv_if_eq (tgt := 20) hx hb dX5_brush_7 (by decide) (fun c2 => ?_) (fun c2 => ?_)
  · have hsp := itT hsp c2
    refine lv_bipush (v := (-2)) hx hb dX5_brush_20 (by decide) ?_
    have hres := Option.some.inj hsp
    subst hres
    exact W.iret (v := (-2)) hx hb hr (fun t ht hW => ⟨⟨(-2), (), rfl, rfl, P_at ht hP⟩, hS.F ht⟩) hS.2.2 dX5_brush_22
  have hsp := itF hsp c2
  refine lv_aload_n hx hb dX5_brush_10 rfl (lv_at hl 0 rfl) ?_
  refine lv_bipush (v := 47) hx hb dX5_brush_11 (by decide) ?_
  refine lv_iload_n hx hb dX5_brush_13 rfl (lv_at hl 1 rfl) ?_
  obtain ⟨r3, hcr3, hsp⟩ := clE hsp
  refine call_i (w1 := [(a0, .inr (5, [.ref a1, w0_1, w0_2, w0_3, w0_4, w0_5, w0_6, w0_7, w0_8, w0_9, w0_10, w0_11, w0_12])), (a1, .inl (cI, 99, .inl f1))]) (ws' := [(a0, .inr (5, [.ref a1, w0_1, w0_2, w0_3, w0_4, w0_5, w0_6, w0_7, w0_8, w0_9, w0_10, w0_11, w0_12])), (a1, .inl (cI, 99, .inl f1))]) (va_runV (As := [.int 47, .int u1]) (rest := []) ⟨hx, hb, hml, hown, hts⟩ (k_X5_ofPaint l D cI cZ cC cS H.size a0 a1 (w0_1) (w0_2) (w0_3) (w0_4) (w0_5) (w0_6) (w0_7) (w0_8) (w0_9) (w0_10) (w0_11) (w0_12) f1 47 u1 r3 hcr3) (cwV 2 hts gX5_brush_X5_ofPaint rfl rfl rfl nd_X5_ofPaint ⟨Nat.le_of_ble_eq_true rfl, Nat.le_of_ble_eq_true rfl⟩) (PB.preV (ci := 5) (q0 := 0) hKU hP hD [0, 1] rfl rfl rfl rfl) rfl rfl hl.1 rfl (lv_room (Nat.le_of_ble_eq_true rfl)) dX5_brush_14 ⟨Nat.zero_le _, Nat.zero_le _⟩) hS hP hD hA [0, 1] rfl rfl (by first | (simp only [wset, List.set_cons_zero, List.set_cons_succ]; done) | rfl) rfl (fun H locs hP hD hS => ?_)
  refine lv_goto (tgt := 22) hx hb dX5_brush_17 (by decide) ?_
  have hres := Option.some.inj hsp
  subst hres
  exact W.iret (v := r3) hx hb hr (fun t ht hW => ⟨⟨r3, (), rfl, rfl, P_at ht hP⟩, hS.F ht⟩) hS.2.2 dX5_brush_22

theorem nd_X5_clears : yX5_clears.cls = RX5 ∧ yX5_clears.cls ≠ "java/lang/invoke/MethodHandle" ∧ yX5_clears.cls ≠ "java/lang/invoke/VarHandle" ∧ (parseMethodDescriptor yX5_clears.desc).map (fun d => d.parameters.length) = some 1 := by decide +kernel
set_option maxHeartbeats 8000000 in
set_option maxRecDepth 100000 in
theorem k_X5_clears (l : Launch) (D : va_G) (cI cZ cC cS : ClassId) (sz : Nat) (a0 a1 : Nat) (w0_1 : Value) (w0_2 : Value) (w0_3 : Value) (w0_4 : Value) (w0_5 : Value) (w0_6 : Value) (w0_7 : Value) (w0_8 : Value) (w0_9 : Value) (w0_10 : Value) (w0_11 : Value) (w0_12 : Value) (f1 : Nat → Int32) (u1 : Int32) (res : (Nat → Int32)) (hsp : s_X5_clears f1 u1 = some res) : Met l yX5_clears wsX5_clears ({ frames := 0, cells := 0, slots := 0, locals := 0 }) (va_Pc [.ref a0, .int u1] (PB D cI cZ cC cS [(a0, .inr (5, [.ref a1, w0_1, w0_2, w0_3, w0_4, w0_5, w0_6, w0_7, w0_8, w0_9, w0_10, w0_11, w0_12])), (a1, .inl (cI, 99, .inl f1))] sz)) (va_Qv (fun (_ : Unit) => True) (fun _ t => va_P D vwCl [(a0, .inr (5, [.ref a1, w0_1, w0_2, w0_3, w0_4, w0_5, w0_6, w0_7, w0_8, w0_9, w0_10, w0_11, w0_12])), (a1, .inl (cI, 99, .inl res))] t.heap) (va_A [(a0, .inr (5, [.ref a1, w0_1, w0_2, w0_3, w0_4, w0_5, w0_6, w0_7, w0_8, w0_9, w0_10, w0_11, w0_12])), (a1, .inl (cI, 99, .inl f1))] sz)) 0 0 (va_A [(a0, .inr (5, [.ref a1, w0_1, w0_2, w0_3, w0_4, w0_5, w0_6, w0_7, w0_8, w0_9, w0_10, w0_11, w0_12])), (a1, .inl (cI, 99, .inl f1))] sz) := by
  refine Met.ofW (cc := cX5_clears) (maxL := 3) (ret := none) (by decide) rfl ?_
  intro p e s m args below meth c s₁ B hml hv
  obtain ⟨rfl, hsz, hP, hD0, hKU⟩ := hv
  have hx := B.exec
  have hb := B.bytes
  have hr := B.returns
  have hts := atoms_spec (ws := wsX5_clears) B.pre
  have hown : s.vm.findClass RX5 = some m.cls := findClass_of_methodNamed B.named
  have hlocks := B.notSynchronized
  have hK := hKU.1
  have hf_7 := hts (.fieldLink RX5 7 "ThinnedPotsModel" "s" "[I") (by decide +kernel)
  have hi_X5 : ∀ w ∈ u_ws RX5 TX5 13, w ∈ wsX5_clears := by decide +kernel
  subst hsz
  have hD := hD0.self (sz := s.heap.size)
  generalize hAe : va_A [(a0, .inr (5, [.ref a1, w0_1, w0_2, w0_3, w0_4, w0_5, w0_6, w0_7, w0_8, w0_9, w0_10, w0_11, w0_12])), (a1, .inl (cI, 99, .inl f1))] s.heap.size = A at hD ⊢
  have hA : ∀ q : Nat, s.heap.size ≤ q → A q := fun q h => by rw [← hAe]; exact Or.inr h
  have hP : va_P D vwCl [(a0, .inr (5, [.ref a1, w0_1, w0_2, w0_3, w0_4, w0_5, w0_6, w0_7, w0_8, w0_9, w0_10, w0_11, w0_12])), (a1, .inl (cI, 99, .inl f1))] s.heap := hP
  generalize hHe : s.heap = H at hP ⊢
  have hS : va_S A s.heap H [] := by rw [hHe]; exact va_S.rf
  have hl := lv_entry ([.ref a0, .int u1]) (n := 3) (Nat.le_of_ble_eq_true rfl)
  rw [lg_entry_eq]
  generalize (lg_sl ([.ref a0, .int u1]) ++ List.replicate (3 - (lg_sl ([.ref a0, .int u1])).length) Slot.unset).toArray = ls at hl ⊢
  have hl : lv_has ls 3 [(0, .ref a0), (1, .int u1)] := hl
  unfold s_X5_clears at hsp
  refine lv_iconst (v := 0) hx hb dX5_clears_0 (by decide) ?_
  refine lv_istore_n (lv' := [(2, .int 0), (0, .ref a0), (1, .int u1)]) hx hb dX5_clears_1 rfl hl (by decide) rfl (fun ls hl => ?_)
  refine ex_rule (D := D) (K := s_X5_clears_X1) (P := fun (t1 : (Nat → Int32)) => [(a0, .inr (5, [.ref a1, w0_1, w0_2, w0_3, w0_4, w0_5, w0_6, w0_7, w0_8, w0_9, w0_10, w0_11, w0_12])), (a1, .inl (cI, 99, .inl t1))]) (L := fun (t1 : (Nat → Int32)) => []) (nL := 3) (pcx := 22) (res := res) (A := A) (H0 := s.heap) ?_ (fun hx1 => ?_)
  · intro t1 H locs hsp hP hD hS ls hl
    obtain ⟨y3, rfl⟩ : ∃ z, z = t1 := ⟨_, rfl⟩
    unfold s_X5_clears_X1 at hsp; try dsimp only at hsp
    have hP : va_P D vwCl [(a0, .inr (5, [.ref a1, w0_1, w0_2, w0_3, w0_4, w0_5, w0_6, w0_7, w0_8, w0_9, w0_10, w0_11, w0_12])), (a1, .inl (cI, 99, .inl y3))] H := hP
    have hD : va_D A [(a0, .inr (5, [.ref a1, w0_1, w0_2, w0_3, w0_4, w0_5, w0_6, w0_7, w0_8, w0_9, w0_10, w0_11, w0_12])), (a1, .inl (cI, 99, .inl y3))] := hD
    have hl : lv_has ls 3 [] := hl
    have hres := Option.some.inj hsp
    subst hres
    exact W.vret hx hb hr (fun t ht hW => ⟨⟨(), rfl, trivial, P_at ht hP⟩, hS.F ht⟩) hS.2.2 dX5_clears_22
  have hl := lv_sub hl (l' := [(0, .ref a0), (1, .int u1), (2, .int 0)]) [1, 2, 0] rfl
  refine lp_rule (D := D) (F := s_X5_clears_L1 u1 (s_X5_clears_X1)) (P := fun (tv : Int32 × (Nat → Int32)) => [(a0, .inr (5, [.ref a1, w0_1, w0_2, w0_3, w0_4, w0_5, w0_6, w0_7, w0_8, w0_9, w0_10, w0_11, w0_12])), (a1, .inl (cI, 99, .inl tv.2))]) (L := fun (tv : Int32 × (Nat → Int32)) => [(0, .ref a0), (1, .int u1), (2, .int tv.1)]) (nL := 3) (res := res) (A := A) (H0 := s.heap) (fun _ => rfl) ?_ 1000 (0, f1) _ _ hsp hP hD hS _ hl
  · intro n1 ih1 tv H locs hsp hP hD hS ls hl
    obtain ⟨x1, y2⟩ := tv
    have hsp : s_X5_clears_B1  u1 (s_X5_clears_X1) (s_X5_clears_L1 u1 (s_X5_clears_X1) n1) x1 y2 = some res := hsp
    unfold s_X5_clears_B1 at hsp
    have hP : va_P D vwCl [(a0, .inr (5, [.ref a1, w0_1, w0_2, w0_3, w0_4, w0_5, w0_6, w0_7, w0_8, w0_9, w0_10, w0_11, w0_12])), (a1, .inl (cI, 99, .inl y2))] H := hP
    have hD : va_D A [(a0, .inr (5, [.ref a1, w0_1, w0_2, w0_3, w0_4, w0_5, w0_6, w0_7, w0_8, w0_9, w0_10, w0_11, w0_12])), (a1, .inl (cI, 99, .inl y2))] := hD
    have hl : lv_has ls 3 [(0, .ref a0), (1, .int u1), (2, .int x1)] := hl
    refine lv_iload_n hx hb dX5_clears_2 rfl (lv_at hl 2 rfl) ?_
    refine lv_iconst (v := 4) hx hb dX5_clears_3 (by decide) ?_
    refine lv_icmp_ge (tgt := 22) hx hb dX5_clears_4 (by decide) (fun c4 => ?_) (fun c4 => ?_)
    · have hsp := itT hsp c4
      exact hx1 y2 _ _ hsp hP hD hS _ (lv_sub hl [] rfl)
    have hsp := itF hsp c4
    refine lv_aload_n hx hb dX5_clears_7 rfl (lv_at hl 0 rfl) ?_
    refine va_get (D := D) (ci := 5) (v := .ref a1) (C := RX5) (T := TX5) (N := 13) hx hb hts hi_X5 hown hK hP 0 rfl rfl 0 (by decide) hf_7 (fun _ h9 => h9) rfl dX5_clears_8 ?_
    refine lv_iload_n hx hb dX5_clears_11 rfl (lv_at hl 1 rfl) ?_
    refine lv_iload_n hx hb dX5_clears_12 rfl (lv_at hl 2 rfl) ?_
    refine lv_iadd hx hb dX5_clears_13 ?_
    refine lv_iconst (v := 0) hx hb dX5_clears_14 (by decide) ?_
    obtain ⟨y5, ey5, hny5, hsp⟩ := stoE hsp
    refine r_iast (ws' := [(a0, .inr (5, [.ref a1, w0_1, w0_2, w0_3, w0_4, w0_5, w0_6, w0_7, w0_8, w0_9, w0_10, w0_11, w0_12])), (a1, .inl (cI, 99, .inl y5))]) hx hb hK hP hD hS 1 0 rfl rfl ey5 hny5 rfl dX5_clears_15 (fun H locs hP hD hS => ?_)
    obtain ⟨x6, ex6, hsp⟩ := nmE hsp
    refine lv_iinc (k := 2) (v := x6) (lv' := [(2, .int x6), (0, .ref a0), (1, .int u1)]) hx hb dX5_clears_16 hl rfl (by rw [ex6]; rfl) (by decide) rfl (fun ls hl => ?_)
    refine lv_goto (tgt := 2) hx hb dX5_clears_19 (by decide) ?_
    exact ih1 (x6, y5) _ _ hsp hP hD hS _ (lv_sub hl [1, 2, 0] rfl)

theorem nd_X5_painted : yX5_painted.cls = RX5 ∧ yX5_painted.cls ≠ "java/lang/invoke/MethodHandle" ∧ yX5_painted.cls ≠ "java/lang/invoke/VarHandle" ∧ (parseMethodDescriptor yX5_painted.desc).map (fun d => d.parameters.length) = some 0 := by decide +kernel
set_option maxHeartbeats 8000000 in
set_option maxRecDepth 100000 in
theorem k_X5_painted (l : Launch) (D : va_G) (cI cZ cC cS : ClassId) (sz : Nat) (a0 a1 : Nat) (w0_1 : Value) (w0_2 : Value) (w0_3 : Value) (w0_4 : Value) (w0_5 : Value) (w0_6 : Value) (w0_7 : Value) (w0_8 : Value) (w0_9 : Value) (w0_10 : Value) (w0_11 : Value) (w0_12 : Value) (f1 : Nat → Int32) (res : Int32) (hsp : s_X5_painted f1 = some res) : Met l yX5_painted wsX5_painted ({ frames := 1, cells := 0, slots := 0, locals := 20 }) (va_Pc [.ref a0] (PB D cI cZ cC cS [(a0, .inr (5, [.ref a1, w0_1, w0_2, w0_3, w0_4, w0_5, w0_6, w0_7, w0_8, w0_9, w0_10, w0_11, w0_12])), (a1, .inl (cI, 99, .inl f1))] sz)) (va_Qi (fun r (_ : Unit) => r = res) (fun _ t => va_P D vwCl [(a0, .inr (5, [.ref a1, w0_1, w0_2, w0_3, w0_4, w0_5, w0_6, w0_7, w0_8, w0_9, w0_10, w0_11, w0_12])), (a1, .inl (cI, 99, .inl f1))] t.heap) (va_A [(a0, .inr (5, [.ref a1, w0_1, w0_2, w0_3, w0_4, w0_5, w0_6, w0_7, w0_8, w0_9, w0_10, w0_11, w0_12])), (a1, .inl (cI, 99, .inl f1))] sz)) 0 0 (va_A [(a0, .inr (5, [.ref a1, w0_1, w0_2, w0_3, w0_4, w0_5, w0_6, w0_7, w0_8, w0_9, w0_10, w0_11, w0_12])), (a1, .inl (cI, 99, .inl f1))] sz) := by
  refine Met.ofW (cc := cX5_painted) (maxL := 3) (ret := (some .int)) (by decide) rfl ?_
  intro p e s m args below meth c s₁ B hml hv
  obtain ⟨rfl, hsz, hP, hD0, hKU⟩ := hv
  have hx := B.exec
  have hb := B.bytes
  have hr := B.returns
  have hts := atoms_spec (ws := wsX5_painted) B.pre
  have hown : s.vm.findClass RX5 = some m.cls := findClass_of_methodNamed B.named
  have hlocks := B.notSynchronized
  have hK := hKU.1
  have hf_7 := hts (.fieldLink RX5 7 "ThinnedPotsModel" "s" "[I") (by decide +kernel)
  have hi_X5 : ∀ w ∈ u_ws RX5 TX5 13, w ∈ wsX5_painted := by decide +kernel
  subst hsz
  have hD := hD0.self (sz := s.heap.size)
  generalize hAe : va_A [(a0, .inr (5, [.ref a1, w0_1, w0_2, w0_3, w0_4, w0_5, w0_6, w0_7, w0_8, w0_9, w0_10, w0_11, w0_12])), (a1, .inl (cI, 99, .inl f1))] s.heap.size = A at hD ⊢
  have hA : ∀ q : Nat, s.heap.size ≤ q → A q := fun q h => by rw [← hAe]; exact Or.inr h
  have hP : va_P D vwCl [(a0, .inr (5, [.ref a1, w0_1, w0_2, w0_3, w0_4, w0_5, w0_6, w0_7, w0_8, w0_9, w0_10, w0_11, w0_12])), (a1, .inl (cI, 99, .inl f1))] s.heap := hP
  generalize hHe : s.heap = H at hP ⊢
  have hS : va_S A s.heap H [] := by rw [hHe]; exact va_S.rf
  have hl := lv_entry ([.ref a0]) (n := 3) (Nat.le_of_ble_eq_true rfl)
  rw [lg_entry_eq]
  generalize (lg_sl ([.ref a0]) ++ List.replicate (3 - (lg_sl ([.ref a0])).length) Slot.unset).toArray = ls at hl ⊢
  have hl : lv_has ls 3 [(0, .ref a0)] := hl
  unfold s_X5_painted at hsp
  refine lv_iconst (v := 0) hx hb dX5_painted_0 (by decide) ?_
  refine lv_istore_n (lv' := [(1, .int 0), (0, .ref a0)]) hx hb dX5_painted_1 rfl hl (by decide) rfl (fun ls hl => ?_)
  refine lv_iconst (v := 0) hx hb dX5_painted_2 (by decide) ?_
  refine lv_istore_n (lv' := [(2, .int 0), (1, .int 0), (0, .ref a0)]) hx hb dX5_painted_3 rfl hl (by decide) rfl (fun ls hl => ?_)
  refine ex_rule (D := D) (K := s_X5_painted_X1) (P := fun (t1 : Int32) => [(a0, .inr (5, [.ref a1, w0_1, w0_2, w0_3, w0_4, w0_5, w0_6, w0_7, w0_8, w0_9, w0_10, w0_11, w0_12])), (a1, .inl (cI, 99, .inl f1))]) (L := fun (t1 : Int32) => [(1, .int t1)]) (nL := 3) (pcx := 30) (res := res) (A := A) (H0 := s.heap) ?_ (fun hx1 => ?_)
  · intro t1 H locs hsp hP hD hS ls hl
    obtain ⟨x3, rfl⟩ : ∃ z, z = t1 := ⟨_, rfl⟩
    unfold s_X5_painted_X1 at hsp; try dsimp only at hsp
    have hP : va_P D vwCl [(a0, .inr (5, [.ref a1, w0_1, w0_2, w0_3, w0_4, w0_5, w0_6, w0_7, w0_8, w0_9, w0_10, w0_11, w0_12])), (a1, .inl (cI, 99, .inl f1))] H := hP
    have hD : va_D A [(a0, .inr (5, [.ref a1, w0_1, w0_2, w0_3, w0_4, w0_5, w0_6, w0_7, w0_8, w0_9, w0_10, w0_11, w0_12])), (a1, .inl (cI, 99, .inl f1))] := hD
    have hl : lv_has ls 3 [(1, .int x3)] := hl
    refine lv_iload_n hx hb dX5_painted_30 rfl (lv_at hl 0 rfl) ?_
    have hres := Option.some.inj hsp
    subst hres
    exact W.iret (v := x3) hx hb hr (fun t ht hW => ⟨⟨x3, (), rfl, rfl, P_at ht hP⟩, hS.F ht⟩) hS.2.2 dX5_painted_31
  have hl := lv_sub hl (l' := [(0, .ref a0), (1, .int 0), (2, .int 0)]) [2, 1, 0] rfl
  refine lp_rule (D := D) (F := s_X5_painted_L1 f1 (s_X5_painted_X1)) (P := fun (tv : Int32 × Int32) => [(a0, .inr (5, [.ref a1, w0_1, w0_2, w0_3, w0_4, w0_5, w0_6, w0_7, w0_8, w0_9, w0_10, w0_11, w0_12])), (a1, .inl (cI, 99, .inl f1))]) (L := fun (tv : Int32 × Int32) => [(0, .ref a0), (1, .int tv.1), (2, .int tv.2)]) (nL := 3) (res := res) (A := A) (H0 := s.heap) (fun _ => rfl) ?_ 1000 (0, 0) _ _ hsp hP hD hS _ hl
  · intro n1 ih1 tv H locs hsp hP hD hS ls hl
    obtain ⟨x1, x2⟩ := tv
    have hsp : s_X5_painted_B1  f1 (s_X5_painted_X1) (s_X5_painted_L1 f1 (s_X5_painted_X1) n1) x1 x2 = some res := hsp
    unfold s_X5_painted_B1 at hsp
    have hP : va_P D vwCl [(a0, .inr (5, [.ref a1, w0_1, w0_2, w0_3, w0_4, w0_5, w0_6, w0_7, w0_8, w0_9, w0_10, w0_11, w0_12])), (a1, .inl (cI, 99, .inl f1))] H := hP
    have hD : va_D A [(a0, .inr (5, [.ref a1, w0_1, w0_2, w0_3, w0_4, w0_5, w0_6, w0_7, w0_8, w0_9, w0_10, w0_11, w0_12])), (a1, .inl (cI, 99, .inl f1))] := hD
    have hl : lv_has ls 3 [(0, .ref a0), (1, .int x1), (2, .int x2)] := hl
    refine lv_iload_n hx hb dX5_painted_4 rfl (lv_at hl 2 rfl) ?_
    refine lv_bipush (v := 6) hx hb dX5_painted_5 (by decide) ?_
    refine lv_icmp_ge (tgt := 30) hx hb dX5_painted_7 (by decide) (fun c4 => ?_) (fun c4 => ?_)
    · have hsp := itT hsp c4
      exact hx1 x1 _ _ hsp hP hD hS _ (lv_sub hl [1] rfl)
    have hsp := itF hsp c4
    refine lv_iload_n hx hb dX5_painted_10 rfl (lv_at hl 1 rfl) ?_
    refine lv_aload_n hx hb dX5_painted_11 rfl (lv_at hl 0 rfl) ?_
    refine va_get (D := D) (ci := 5) (v := .ref a1) (C := RX5) (T := TX5) (N := 13) hx hb hts hi_X5 hown hK hP 0 rfl rfl 0 (by decide) hf_7 (fun _ h9 => h9) rfl dX5_painted_12 ?_
    refine lv_iload_n hx hb dX5_painted_15 rfl (lv_at hl 2 rfl) ?_
    obtain ⟨r5, hcr5, hsp⟩ := clE hsp
    refine call_i (w1 := []) (ws' := [(a0, .inr (5, [.ref a1, w0_1, w0_2, w0_3, w0_4, w0_5, w0_6, w0_7, w0_8, w0_9, w0_10, w0_11, w0_12])), (a1, .inl (cI, 99, .inl f1))]) (va_runS (As := [.int x2]) (rest := [.ref a1, .int x1]) ⟨hx, hb, hml, hown, hts⟩ (k_X5_n l D cI cZ cC cS H.size x2 r5 hcr5) (va_cwS 1 hts gX5_painted_X5_n rfl rfl rfl nd_X5_n.2 ⟨Nat.le_of_ble_eq_true rfl, Nat.le_of_ble_eq_true rfl⟩) (PB.preS hKU hP hD [] rfl rfl) rfl rfl hl.1 rfl (lv_room (Nat.le_of_ble_eq_true rfl)) dX5_painted_16 ⟨Nat.zero_le _, Nat.zero_le _⟩) hS hP hD hA [] rfl rfl (by first | (simp only [wset, List.set_cons_zero, List.set_cons_succ]; done) | rfl) rfl (fun H locs hP hD hS => ?_)
    refine lv_iconst (v := 3) hx hb dX5_painted_19 (by decide) ?_
    refine lv_iadd hx hb dX5_painted_20 ?_
    obtain ⟨x6, ex6, hnx6, hsp⟩ := ldE hsp
    refine r_iald hx hb hK hP 1 0 rfl rfl ex6 hnx6 dX5_painted_21 ?_
    refine lv_iadd hx hb dX5_painted_22 ?_
    obtain ⟨x7, ex7, hsp⟩ := nmE hsp
    refine r_top ex7 ?_
    refine lv_istore_n (lv' := [(1, .int x7), (0, .ref a0), (2, .int x2)]) hx hb dX5_painted_23 rfl hl (by decide) rfl (fun ls hl => ?_)
    obtain ⟨x8, ex8, hsp⟩ := nmE hsp
    refine lv_iinc (k := 2) (v := x8) (lv' := [(2, .int x8), (1, .int x7), (0, .ref a0)]) hx hb dX5_painted_24 hl rfl (by rw [ex8]; rfl) (by decide) rfl (fun ls hl => ?_)
    refine lv_goto (tgt := 4) hx hb dX5_painted_27 (by decide) ?_
    exact ih1 (x7, x8) _ _ hsp hP hD hS _ (lv_sub hl [2, 1, 0] rfl)

theorem nd_X5_isWell : yX5_isWell.cls = RX5 ∧ yX5_isWell.cls ≠ "java/lang/invoke/MethodHandle" ∧ yX5_isWell.cls ≠ "java/lang/invoke/VarHandle" ∧ (parseMethodDescriptor yX5_isWell.desc).map (fun d => d.parameters.length) = some 1 := by decide +kernel
set_option maxHeartbeats 8000000 in
set_option maxRecDepth 100000 in
theorem k_X5_isWell (l : Launch) (D : va_G) (cI cZ cC cS : ClassId) (sz : Nat) (a0 a1 a7 : Nat) (w0_1 : Value) (w0_2 : Value) (w0_3 : Value) (w0_4 : Value) (w0_5 : Value) (w0_7 : Value) (w0_8 : Value) (w0_9 : Value) (w0_10 : Value) (w0_11 : Value) (w0_12 : Value) (f1 : Nat → Int32) (f7 : Nat → Int32) (u1 : Int32) (res : Int32 × (Nat → Int32)) (hsp : s_X5_isWell f1 f7 u1 = some res) : Met l yX5_isWell wsX5_isWell ({ frames := 2, cells := 0, slots := 0, locals := 44 }) (va_Pc [.ref a0, .int u1] (PB D cI cZ cC cS [(a0, .inr (5, [.ref a1, w0_1, w0_2, w0_3, w0_4, w0_5, .ref a7, w0_7, w0_8, w0_9, w0_10, w0_11, w0_12])), (a1, .inl (cI, 99, .inl f1)), (a7, .inl (cI, 3, .inl f7))] sz)) (va_Qi (fun r (_ : Unit) => r = res.1 ∧ (res.1 = 0 ∨ res.1 = 1)) (fun _ t => va_P D vwCl [(a0, .inr (5, [.ref a1, w0_1, w0_2, w0_3, w0_4, w0_5, .ref a7, w0_7, w0_8, w0_9, w0_10, w0_11, w0_12])), (a1, .inl (cI, 99, .inl f1)), (a7, .inl (cI, 3, .inl res.2))] t.heap) (va_A [(a0, .inr (5, [.ref a1, w0_1, w0_2, w0_3, w0_4, w0_5, .ref a7, w0_7, w0_8, w0_9, w0_10, w0_11, w0_12])), (a1, .inl (cI, 99, .inl f1)), (a7, .inl (cI, 3, .inl f7))] sz)) 0 0 (va_A [(a0, .inr (5, [.ref a1, w0_1, w0_2, w0_3, w0_4, w0_5, .ref a7, w0_7, w0_8, w0_9, w0_10, w0_11, w0_12])), (a1, .inl (cI, 99, .inl f1)), (a7, .inl (cI, 3, .inl f7))] sz) := by
  refine Met.ofW (cc := cX5_isWell) (maxL := 3) (ret := (some .boolean)) (by decide) rfl ?_
  intro p e s m args below meth c s₁ B hml hv
  obtain ⟨rfl, hsz, hP, hD0, hKU⟩ := hv
  have hx := B.exec
  have hb := B.bytes
  have hr := B.returns
  have hts := atoms_spec (ws := wsX5_isWell) B.pre
  have hown : s.vm.findClass RX5 = some m.cls := findClass_of_methodNamed B.named
  have hlocks := B.notSynchronized
  have hK := hKU.1
  have hf_7 := hts (.fieldLink RX5 7 "ThinnedPotsModel" "s" "[I") (by decide +kernel)
  have hi_X5 : ∀ w ∈ u_ws RX5 TX5 13, w ∈ wsX5_isWell := by decide +kernel
  have hf_29 := hts (.fieldLink RX5 29 "ThinnedPotsModel" "shade" "[I") (by decide +kernel)
  subst hsz
  have hD := hD0.self (sz := s.heap.size)
  generalize hAe : va_A [(a0, .inr (5, [.ref a1, w0_1, w0_2, w0_3, w0_4, w0_5, .ref a7, w0_7, w0_8, w0_9, w0_10, w0_11, w0_12])), (a1, .inl (cI, 99, .inl f1)), (a7, .inl (cI, 3, .inl f7))] s.heap.size = A at hD ⊢
  have hA : ∀ q : Nat, s.heap.size ≤ q → A q := fun q h => by rw [← hAe]; exact Or.inr h
  have hP : va_P D vwCl [(a0, .inr (5, [.ref a1, w0_1, w0_2, w0_3, w0_4, w0_5, .ref a7, w0_7, w0_8, w0_9, w0_10, w0_11, w0_12])), (a1, .inl (cI, 99, .inl f1)), (a7, .inl (cI, 3, .inl f7))] s.heap := hP
  generalize hHe : s.heap = H at hP ⊢
  have hS : va_S A s.heap H [] := by rw [hHe]; exact va_S.rf
  have hl := lv_entry ([.ref a0, .int u1]) (n := 3) (Nat.le_of_ble_eq_true rfl)
  rw [lg_entry_eq]
  generalize (lg_sl ([.ref a0, .int u1]) ++ List.replicate (3 - (lg_sl ([.ref a0, .int u1])).length) Slot.unset).toArray = ls at hl ⊢
  have hl : lv_has ls 3 [(0, .ref a0), (1, .int u1)] := hl
  unfold s_X5_isWell at hsp
  refine lv_aload_n hx hb dX5_isWell_0 rfl (lv_at hl 0 rfl) ?_
  refine va_get (D := D) (ci := 5) (v := .ref a1) (C := RX5) (T := TX5) (N := 13) hx hb hts hi_X5 hown hK hP 0 rfl rfl 0 (by decide) hf_7 (fun _ h9 => h9) rfl dX5_isWell_1 ?_
  refine lv_iload_n hx hb dX5_isWell_4 rfl (lv_at hl 1 rfl) ?_
  obtain ⟨r1, hcr1, hsp⟩ := clE hsp
  refine call_i (w1 := []) (ws' := [(a0, .inr (5, [.ref a1, w0_1, w0_2, w0_3, w0_4, w0_5, .ref a7, w0_7, w0_8, w0_9, w0_10, w0_11, w0_12])), (a1, .inl (cI, 99, .inl f1)), (a7, .inl (cI, 3, .inl f7))]) (va_runS (As := [.int u1]) (rest := [.ref a1]) ⟨hx, hb, hml, hown, hts⟩ (k_X5_n l D cI cZ cC cS H.size u1 r1 hcr1) (va_cwS 1 hts gX5_isWell_X5_n rfl rfl rfl nd_X5_n.2 ⟨Nat.le_of_ble_eq_true rfl, Nat.le_of_ble_eq_true rfl⟩) (PB.preS hKU hP hD [] rfl rfl) rfl rfl hl.1 rfl (lv_room (Nat.le_of_ble_eq_true rfl)) dX5_isWell_5 ⟨Nat.zero_le _, Nat.zero_le _⟩) hS hP hD hA [] rfl rfl (by first | (simp only [wset, List.set_cons_zero, List.set_cons_succ]; done) | rfl) rfl (fun H locs hP hD hS => ?_)
  refine lv_iconst (v := 3) hx hb dX5_isWell_8 (by decide) ?_
  refine lv_iadd hx hb dX5_isWell_9 ?_
  obtain ⟨x2, ex2, hnx2, hsp⟩ := ldE hsp
  refine r_iald hx hb hK hP 1 0 rfl rfl ex2 hnx2 dX5_isWell_10 ?_
  refine lv_if_ne (tgt := 16) hx hb dX5_isWell_11 (by decide) (fun c3 => ?_) (fun c3 => ?_)
  · have hsp := itF hsp c3
    refine lv_iconst (v := 0) hx hb dX5_isWell_16 (by decide) ?_
    refine lv_istore_n (lv' := [(2, .int 0), (0, .ref a0), (1, .int u1)]) hx hb dX5_isWell_17 rfl hl (by decide) rfl (fun ls hl => ?_)
    refine ex_rule (D := D) (K := s_X5_isWell_X1 f1 u1) (P := fun (t1 : (Nat → Int32)) => [(a0, .inr (5, [.ref a1, w0_1, w0_2, w0_3, w0_4, w0_5, .ref a7, w0_7, w0_8, w0_9, w0_10, w0_11, w0_12])), (a1, .inl (cI, 99, .inl f1)), (a7, .inl (cI, 3, .inl t1))]) (L := fun (t1 : (Nat → Int32)) => [(0, .ref a0), (1, .int u1)]) (nL := 3) (pcx := 48) (res := res) (A := A) (H0 := s.heap) ?_ (fun hx1 => ?_)
    · intro t1 H locs hsp hP hD hS ls hl
      obtain ⟨y6, rfl⟩ : ∃ z, z = t1 := ⟨_, rfl⟩
      unfold s_X5_isWell_X1 at hsp; try dsimp only at hsp
      have hP : va_P D vwCl [(a0, .inr (5, [.ref a1, w0_1, w0_2, w0_3, w0_4, w0_5, .ref a7, w0_7, w0_8, w0_9, w0_10, w0_11, w0_12])), (a1, .inl (cI, 99, .inl f1)), (a7, .inl (cI, 3, .inl y6))] H := hP
      have hD : va_D A [(a0, .inr (5, [.ref a1, w0_1, w0_2, w0_3, w0_4, w0_5, .ref a7, w0_7, w0_8, w0_9, w0_10, w0_11, w0_12])), (a1, .inl (cI, 99, .inl f1)), (a7, .inl (cI, 3, .inl y6))] := hD
      have hl : lv_has ls 3 [(0, .ref a0), (1, .int u1)] := hl
      refine lv_aload_n hx hb dX5_isWell_48 rfl (lv_at hl 0 rfl) ?_
      refine lv_iload_n hx hb dX5_isWell_49 rfl (lv_at hl 1 rfl) ?_
      obtain ⟨r7, hcr7, hsp⟩ := clE hsp
      refine call_i (w1 := [(a0, .inr (5, [.ref a1, w0_1, w0_2, w0_3, w0_4, w0_5, .ref a7, w0_7, w0_8, w0_9, w0_10, w0_11, w0_12])), (a1, .inl (cI, 99, .inl f1)), (a7, .inl (cI, 3, .inl y6))]) (ws' := [(a0, .inr (5, [.ref a1, w0_1, w0_2, w0_3, w0_4, w0_5, .ref a7, w0_7, w0_8, w0_9, w0_10, w0_11, w0_12])), (a1, .inl (cI, 99, .inl f1)), (a7, .inl (cI, 3, .inl y6))]) (va_runV (As := [.int u1]) (rest := []) ⟨hx, hb, hml, hown, hts⟩ (k_X5_distance l D cI cZ cC cS H.size a0 a1 a7 (w0_1) (w0_2) (w0_3) (w0_4) (w0_5) (w0_7) (w0_8) (w0_9) (w0_10) (w0_11) (w0_12) f1 y6 u1 r7 hcr7) (cwV 1 hts gX5_isWell_X5_distance rfl rfl rfl nd_X5_distance ⟨Nat.le_of_ble_eq_true rfl, Nat.le_of_ble_eq_true rfl⟩) (PB.preV (ci := 5) (q0 := 0) hKU hP hD [0, 1, 2] rfl rfl rfl rfl) rfl rfl hl.1 rfl (lv_room (Nat.le_of_ble_eq_true rfl)) dX5_isWell_50 ⟨Nat.zero_le _, Nat.zero_le _⟩) hS hP hD hA [0, 1, 2] rfl rfl (by first | (simp only [wset, List.set_cons_zero, List.set_cons_succ]; done) | rfl) rfl (fun H locs hP hD hS => ?_)
      refine lv_aload_n hx hb dX5_isWell_53 rfl (lv_at hl 0 rfl) ?_
      refine va_get (D := D) (ci := 5) (v := .ref a1) (C := RX5) (T := TX5) (N := 13) hx hb hts hi_X5 hown hK hP 0 rfl rfl 0 (by decide) hf_7 (fun _ h9 => h9) rfl dX5_isWell_54 ?_
      refine lv_iconst (v := 1) hx hb dX5_isWell_57 (by decide) ?_
      obtain ⟨x8, ex8, hnx8, hsp⟩ := ldE hsp
      refine r_iald hx hb hK hP 1 0 rfl rfl ex8 hnx8 dX5_isWell_58 ?_
      refine lv_icmp_gt (tgt := 66) hx hb dX5_isWell_59 (by decide) (fun c9 => ?_) (fun c9 => ?_)
      · have hsp := itT hsp c9
        refine lv_iconst (v := 0) hx hb dX5_isWell_66 (by decide) ?_
        have hres := Option.some.inj hsp
        subst hres
        exact W.zret (v := 0) hx hb hr (zE (Or.inl rfl)) (fun t ht hW => ⟨⟨0, (), rfl, ⟨rfl, (Or.inl rfl)⟩, P_at ht hP⟩, hS.F ht⟩) hS.2.2 dX5_isWell_67
      have hsp := itF hsp c9
      refine lv_iconst (v := 1) hx hb dX5_isWell_62 (by decide) ?_
      refine lv_goto (tgt := 67) hx hb dX5_isWell_63 (by decide) ?_
      have hres := Option.some.inj hsp
      subst hres
      exact W.zret (v := 1) hx hb hr (zE (Or.inr rfl)) (fun t ht hW => ⟨⟨1, (), rfl, ⟨rfl, (Or.inr rfl)⟩, P_at ht hP⟩, hS.F ht⟩) hS.2.2 dX5_isWell_67
    have hl := lv_sub hl (l' := [(0, .ref a0), (1, .int u1), (2, .int 0)]) [1, 2, 0] rfl
    refine lp_rule (D := D) (F := s_X5_isWell_L1 u1 f1 (s_X5_isWell_X1 f1 u1)) (P := fun (tv : Int32 × (Nat → Int32)) => [(a0, .inr (5, [.ref a1, w0_1, w0_2, w0_3, w0_4, w0_5, .ref a7, w0_7, w0_8, w0_9, w0_10, w0_11, w0_12])), (a1, .inl (cI, 99, .inl f1)), (a7, .inl (cI, 3, .inl tv.2))]) (L := fun (tv : Int32 × (Nat → Int32)) => [(0, .ref a0), (1, .int u1), (2, .int tv.1)]) (nL := 3) (res := res) (A := A) (H0 := s.heap) (fun _ => rfl) ?_ 1000 (0, f7) _ _ hsp hP hD hS _ hl
    · intro n1 ih1 tv H locs hsp hP hD hS ls hl
      obtain ⟨x4, y5⟩ := tv
      have hsp : s_X5_isWell_B1  u1 f1 (s_X5_isWell_X1 f1 u1) (s_X5_isWell_L1 u1 f1 (s_X5_isWell_X1 f1 u1) n1) x4 y5 = some res := hsp
      unfold s_X5_isWell_B1 at hsp
      have hP : va_P D vwCl [(a0, .inr (5, [.ref a1, w0_1, w0_2, w0_3, w0_4, w0_5, .ref a7, w0_7, w0_8, w0_9, w0_10, w0_11, w0_12])), (a1, .inl (cI, 99, .inl f1)), (a7, .inl (cI, 3, .inl y5))] H := hP
      have hD : va_D A [(a0, .inr (5, [.ref a1, w0_1, w0_2, w0_3, w0_4, w0_5, .ref a7, w0_7, w0_8, w0_9, w0_10, w0_11, w0_12])), (a1, .inl (cI, 99, .inl f1)), (a7, .inl (cI, 3, .inl y5))] := hD
      have hl : lv_has ls 3 [(0, .ref a0), (1, .int u1), (2, .int x4)] := hl
      refine lv_iload_n hx hb dX5_isWell_18 rfl (lv_at hl 2 rfl) ?_
      refine lv_iconst (v := 3) hx hb dX5_isWell_19 (by decide) ?_
      refine lv_icmp_ge (tgt := 48) hx hb dX5_isWell_20 (by decide) (fun c10 => ?_) (fun c10 => ?_)
      · have hsp := itT hsp c10
        exact hx1 y5 _ _ hsp hP hD hS _ (lv_sub hl [0, 1] rfl)
      have hsp := itF hsp c10
      refine lv_aload_n hx hb dX5_isWell_23 rfl (lv_at hl 0 rfl) ?_
      refine va_get (D := D) (ci := 5) (v := .ref a7) (C := RX5) (T := TX5) (N := 13) hx hb hts hi_X5 hown hK hP 0 rfl rfl 6 (by decide) hf_29 (fun _ h9 => h9) rfl dX5_isWell_24 ?_
      refine lv_iload_n hx hb dX5_isWell_27 rfl (lv_at hl 2 rfl) ?_
      refine lv_aload_n hx hb dX5_isWell_28 rfl (lv_at hl 0 rfl) ?_
      refine va_get (D := D) (ci := 5) (v := .ref a1) (C := RX5) (T := TX5) (N := 13) hx hb hts hi_X5 hown hK hP 0 rfl rfl 0 (by decide) hf_7 (fun _ h9 => h9) rfl dX5_isWell_29 ?_
      refine lv_iload_n hx hb dX5_isWell_32 rfl (lv_at hl 1 rfl) ?_
      obtain ⟨r11, hcr11, hsp⟩ := clE hsp
      refine call_i (w1 := []) (ws' := [(a0, .inr (5, [.ref a1, w0_1, w0_2, w0_3, w0_4, w0_5, .ref a7, w0_7, w0_8, w0_9, w0_10, w0_11, w0_12])), (a1, .inl (cI, 99, .inl f1)), (a7, .inl (cI, 3, .inl y5))]) (va_runS (As := [.int u1]) (rest := [.ref a1, .int x4, .ref a7]) ⟨hx, hb, hml, hown, hts⟩ (k_X5_n l D cI cZ cC cS H.size u1 r11 hcr11) (va_cwS 1 hts gX5_isWell_X5_n rfl rfl rfl nd_X5_n.2 ⟨Nat.le_of_ble_eq_true rfl, Nat.le_of_ble_eq_true rfl⟩) (PB.preS hKU hP hD [] rfl rfl) rfl rfl hl.1 rfl (lv_room (Nat.le_of_ble_eq_true rfl)) dX5_isWell_33 ⟨Nat.zero_le _, Nat.zero_le _⟩) hS hP hD hA [] rfl rfl (by first | (simp only [wset, List.set_cons_zero, List.set_cons_succ]; done) | rfl) rfl (fun H locs hP hD hS => ?_)
      refine lv_iconst (v := 4) hx hb dX5_isWell_36 (by decide) ?_
      refine lv_iadd hx hb dX5_isWell_37 ?_
      refine lv_iload_n hx hb dX5_isWell_38 rfl (lv_at hl 2 rfl) ?_
      refine lv_iadd hx hb dX5_isWell_39 ?_
      obtain ⟨x12, ex12, hnx12, hsp⟩ := ldE hsp
      refine r_iald hx hb hK hP 1 0 rfl rfl ex12 hnx12 dX5_isWell_40 ?_
      obtain ⟨y13, ey13, hny13, hsp⟩ := stoE hsp
      refine r_iast (ws' := [(a0, .inr (5, [.ref a1, w0_1, w0_2, w0_3, w0_4, w0_5, .ref a7, w0_7, w0_8, w0_9, w0_10, w0_11, w0_12])), (a1, .inl (cI, 99, .inl f1)), (a7, .inl (cI, 3, .inl y13))]) hx hb hK hP hD hS 2 0 rfl rfl ey13 hny13 rfl dX5_isWell_41 (fun H locs hP hD hS => ?_)
      obtain ⟨x14, ex14, hsp⟩ := nmE hsp
      refine lv_iinc (k := 2) (v := x14) (lv' := [(2, .int x14), (0, .ref a0), (1, .int u1)]) hx hb dX5_isWell_42 hl rfl (by rw [ex14]; rfl) (by decide) rfl (fun ls hl => ?_)
      refine lv_goto (tgt := 18) hx hb dX5_isWell_45 (by decide) ?_
      exact ih1 (x14, y13) _ _ hsp hP hD hS _ (lv_sub hl [1, 2, 0] rfl)
  have hsp := itT hsp c3
  refine lv_iconst (v := 0) hx hb dX5_isWell_14 (by decide) ?_
  have hres := Option.some.inj hsp
  subst hres
  exact W.zret (v := 0) hx hb hr (zE (Or.inl rfl)) (fun t ht hW => ⟨⟨0, (), rfl, ⟨rfl, (Or.inl rfl)⟩, P_at ht hP⟩, hS.F ht⟩) hS.2.2 dX5_isWell_15

theorem nd_X5_well : yX5_well.cls = RX5 ∧ yX5_well.cls ≠ "java/lang/invoke/MethodHandle" ∧ yX5_well.cls ≠ "java/lang/invoke/VarHandle" ∧ (parseMethodDescriptor yX5_well.desc).map (fun d => d.parameters.length) = some 0 := by decide +kernel
set_option maxHeartbeats 8000000 in
set_option maxRecDepth 100000 in
theorem k_X5_well (l : Launch) (D : va_G) (cI cZ cC cS : ClassId) (sz : Nat) (a0 a1 a7 : Nat) (w0_1 : Value) (w0_2 : Value) (w0_3 : Value) (w0_4 : Value) (w0_5 : Value) (w0_7 : Value) (w0_8 : Value) (w0_9 : Value) (w0_10 : Value) (w0_11 : Value) (w0_12 : Value) (f1 : Nat → Int32) (f7 : Nat → Int32) (res : Int32 × (Nat → Int32)) (hsp : s_X5_well f1 f7 = some res) : Met l yX5_well wsX5_well ({ frames := 3, cells := 0, slots := 0, locals := 66 }) (va_Pc [.ref a0] (PB D cI cZ cC cS [(a0, .inr (5, [.ref a1, w0_1, w0_2, w0_3, w0_4, w0_5, .ref a7, w0_7, w0_8, w0_9, w0_10, w0_11, w0_12])), (a1, .inl (cI, 99, .inl f1)), (a7, .inl (cI, 3, .inl f7))] sz)) (va_Qi (fun r (_ : Unit) => r = res.1) (fun _ t => va_P D vwCl [(a0, .inr (5, [.ref a1, w0_1, w0_2, w0_3, w0_4, w0_5, .ref a7, w0_7, w0_8, w0_9, w0_10, w0_11, w0_12])), (a1, .inl (cI, 99, .inl f1)), (a7, .inl (cI, 3, .inl res.2))] t.heap) (va_A [(a0, .inr (5, [.ref a1, w0_1, w0_2, w0_3, w0_4, w0_5, .ref a7, w0_7, w0_8, w0_9, w0_10, w0_11, w0_12])), (a1, .inl (cI, 99, .inl f1)), (a7, .inl (cI, 3, .inl f7))] sz)) 0 0 (va_A [(a0, .inr (5, [.ref a1, w0_1, w0_2, w0_3, w0_4, w0_5, .ref a7, w0_7, w0_8, w0_9, w0_10, w0_11, w0_12])), (a1, .inl (cI, 99, .inl f1)), (a7, .inl (cI, 3, .inl f7))] sz) := by
  refine Met.ofW (cc := cX5_well) (maxL := 3) (ret := (some .int)) (by decide) rfl ?_
  intro p e s m args below meth c s₁ B hml hv
  obtain ⟨rfl, hsz, hP, hD0, hKU⟩ := hv
  have hx := B.exec
  have hb := B.bytes
  have hr := B.returns
  have hts := atoms_spec (ws := wsX5_well) B.pre
  have hown : s.vm.findClass RX5 = some m.cls := findClass_of_methodNamed B.named
  have hlocks := B.notSynchronized
  have hK := hKU.1
  subst hsz
  have hD := hD0.self (sz := s.heap.size)
  generalize hAe : va_A [(a0, .inr (5, [.ref a1, w0_1, w0_2, w0_3, w0_4, w0_5, .ref a7, w0_7, w0_8, w0_9, w0_10, w0_11, w0_12])), (a1, .inl (cI, 99, .inl f1)), (a7, .inl (cI, 3, .inl f7))] s.heap.size = A at hD ⊢
  have hA : ∀ q : Nat, s.heap.size ≤ q → A q := fun q h => by rw [← hAe]; exact Or.inr h
  have hP : va_P D vwCl [(a0, .inr (5, [.ref a1, w0_1, w0_2, w0_3, w0_4, w0_5, .ref a7, w0_7, w0_8, w0_9, w0_10, w0_11, w0_12])), (a1, .inl (cI, 99, .inl f1)), (a7, .inl (cI, 3, .inl f7))] s.heap := hP
  generalize hHe : s.heap = H at hP ⊢
  have hS : va_S A s.heap H [] := by rw [hHe]; exact va_S.rf
  have hl := lv_entry ([.ref a0]) (n := 3) (Nat.le_of_ble_eq_true rfl)
  rw [lg_entry_eq]
  generalize (lg_sl ([.ref a0]) ++ List.replicate (3 - (lg_sl ([.ref a0])).length) Slot.unset).toArray = ls at hl ⊢
  have hl : lv_has ls 3 [(0, .ref a0)] := hl
  unfold s_X5_well at hsp
  refine lv_iconst (v := 0) hx hb dX5_well_0 (by decide) ?_
  refine lv_istore_n (lv' := [(1, .int 0), (0, .ref a0)]) hx hb dX5_well_1 rfl hl (by decide) rfl (fun ls hl => ?_)
  refine lv_iconst (v := 0) hx hb dX5_well_2 (by decide) ?_
  refine lv_istore_n (lv' := [(2, .int 0), (1, .int 0), (0, .ref a0)]) hx hb dX5_well_3 rfl hl (by decide) rfl (fun ls hl => ?_)
  refine ex_rule (D := D) (K := s_X5_well_X1) (P := fun (t1 : Int32 × (Nat → Int32)) => [(a0, .inr (5, [.ref a1, w0_1, w0_2, w0_3, w0_4, w0_5, .ref a7, w0_7, w0_8, w0_9, w0_10, w0_11, w0_12])), (a1, .inl (cI, 99, .inl f1)), (a7, .inl (cI, 3, .inl t1.2))]) (L := fun (t1 : Int32 × (Nat → Int32)) => [(1, .int t1.1)]) (nL := 3) (pcx := 32) (res := res) (A := A) (H0 := s.heap) ?_ (fun hx1 => ?_)
  · intro t1 H locs hsp hP hD hS ls hl
    obtain ⟨x4, y5⟩ := t1
    unfold s_X5_well_X1 at hsp; try dsimp only at hsp
    have hP : va_P D vwCl [(a0, .inr (5, [.ref a1, w0_1, w0_2, w0_3, w0_4, w0_5, .ref a7, w0_7, w0_8, w0_9, w0_10, w0_11, w0_12])), (a1, .inl (cI, 99, .inl f1)), (a7, .inl (cI, 3, .inl y5))] H := hP
    have hD : va_D A [(a0, .inr (5, [.ref a1, w0_1, w0_2, w0_3, w0_4, w0_5, .ref a7, w0_7, w0_8, w0_9, w0_10, w0_11, w0_12])), (a1, .inl (cI, 99, .inl f1)), (a7, .inl (cI, 3, .inl y5))] := hD
    have hl : lv_has ls 3 [(1, .int x4)] := hl
    refine lv_iload_n hx hb dX5_well_32 rfl (lv_at hl 0 rfl) ?_
    have hres := Option.some.inj hsp
    subst hres
    exact W.iret (v := x4) hx hb hr (fun t ht hW => ⟨⟨x4, (), rfl, rfl, P_at ht hP⟩, hS.F ht⟩) hS.2.2 dX5_well_33
  have hl := lv_sub hl (l' := [(0, .ref a0), (1, .int 0), (2, .int 0)]) [2, 1, 0] rfl
  refine lp_rule (D := D) (F := s_X5_well_L1 f1 (s_X5_well_X1)) (P := fun (tv : Int32 × Int32 × (Nat → Int32)) => [(a0, .inr (5, [.ref a1, w0_1, w0_2, w0_3, w0_4, w0_5, .ref a7, w0_7, w0_8, w0_9, w0_10, w0_11, w0_12])), (a1, .inl (cI, 99, .inl f1)), (a7, .inl (cI, 3, .inl tv.2.2))]) (L := fun (tv : Int32 × Int32 × (Nat → Int32)) => [(0, .ref a0), (1, .int tv.1), (2, .int tv.2.1)]) (nL := 3) (res := res) (A := A) (H0 := s.heap) (fun _ => rfl) ?_ 1000 (0, 0, f7) _ _ hsp hP hD hS _ hl
  · intro n1 ih1 tv H locs hsp hP hD hS ls hl
    obtain ⟨x1, x2, y3⟩ := tv
    have hsp : s_X5_well_B1  f1 (s_X5_well_X1) (s_X5_well_L1 f1 (s_X5_well_X1) n1) x1 x2 y3 = some res := hsp
    unfold s_X5_well_B1 at hsp
    have hP : va_P D vwCl [(a0, .inr (5, [.ref a1, w0_1, w0_2, w0_3, w0_4, w0_5, .ref a7, w0_7, w0_8, w0_9, w0_10, w0_11, w0_12])), (a1, .inl (cI, 99, .inl f1)), (a7, .inl (cI, 3, .inl y3))] H := hP
    have hD : va_D A [(a0, .inr (5, [.ref a1, w0_1, w0_2, w0_3, w0_4, w0_5, .ref a7, w0_7, w0_8, w0_9, w0_10, w0_11, w0_12])), (a1, .inl (cI, 99, .inl f1)), (a7, .inl (cI, 3, .inl y3))] := hD
    have hl : lv_has ls 3 [(0, .ref a0), (1, .int x1), (2, .int x2)] := hl
    refine lv_iload_n hx hb dX5_well_4 rfl (lv_at hl 2 rfl) ?_
    refine lv_bipush (v := 6) hx hb dX5_well_5 (by decide) ?_
    refine lv_icmp_ge (tgt := 32) hx hb dX5_well_7 (by decide) (fun c6 => ?_) (fun c6 => ?_)
    · have hsp := itT hsp c6
      exact hx1 (x1, y3) _ _ hsp hP hD hS _ (lv_sub hl [1] rfl)
    have hsp := itF hsp c6
    refine lv_iload_n hx hb dX5_well_10 rfl (lv_at hl 1 rfl) ?_
    refine lv_aload_n hx hb dX5_well_11 rfl (lv_at hl 0 rfl) ?_
    refine lv_iload_n hx hb dX5_well_12 rfl (lv_at hl 2 rfl) ?_
    obtain ⟨r7, hcr7, hsp⟩ := clE hsp
    refine call_z (w1 := [(a0, .inr (5, [.ref a1, w0_1, w0_2, w0_3, w0_4, w0_5, .ref a7, w0_7, w0_8, w0_9, w0_10, w0_11, w0_12])), (a1, .inl (cI, 99, .inl f1)), (a7, .inl (cI, 3, .inl r7.2))]) (ws' := [(a0, .inr (5, [.ref a1, w0_1, w0_2, w0_3, w0_4, w0_5, .ref a7, w0_7, w0_8, w0_9, w0_10, w0_11, w0_12])), (a1, .inl (cI, 99, .inl f1)), (a7, .inl (cI, 3, .inl r7.2))]) (va_runV (As := [.int x2]) (rest := [.int x1]) ⟨hx, hb, hml, hown, hts⟩ (k_X5_isWell l D cI cZ cC cS H.size a0 a1 a7 (w0_1) (w0_2) (w0_3) (w0_4) (w0_5) (w0_7) (w0_8) (w0_9) (w0_10) (w0_11) (w0_12) f1 y3 x2 r7 hcr7) (cwV 1 hts gX5_well_X5_isWell rfl rfl rfl nd_X5_isWell ⟨Nat.le_of_ble_eq_true rfl, Nat.le_of_ble_eq_true rfl⟩) (PB.preV (ci := 5) (q0 := 0) hKU hP hD [0, 1, 2] rfl rfl rfl rfl) rfl rfl hl.1 rfl (lv_room (Nat.le_of_ble_eq_true rfl)) dX5_well_13 ⟨Nat.zero_le _, Nat.zero_le _⟩) hS hP hD hA [0, 1, 2] rfl rfl (by first | (simp only [wset, List.set_cons_zero, List.set_cons_succ]; done) | rfl) rfl (fun H locs hP hD hS hzr7 => ?_)
    refine lv_if_eq (tgt := 23) hx hb dX5_well_16 (by decide) (fun c8 => ?_) (fun c8 => ?_)
    · have hsp := itT hsp c8
      refine lv_iconst (v := 0) hx hb dX5_well_23 (by decide) ?_
      refine lv_iadd hx hb dX5_well_24 ?_
      obtain ⟨x9, ex9, hsp⟩ := nmE hsp
      refine r_top ex9 ?_
      refine lv_istore_n (lv' := [(1, .int x9), (0, .ref a0), (2, .int x2)]) hx hb dX5_well_25 rfl hl (by decide) rfl (fun ls hl => ?_)
      obtain ⟨x10, ex10, hsp⟩ := nmE hsp
      refine lv_iinc (k := 2) (v := x10) (lv' := [(2, .int x10), (1, .int x9), (0, .ref a0)]) hx hb dX5_well_26 hl rfl (by rw [ex10]; rfl) (by decide) rfl (fun ls hl => ?_)
      refine lv_goto (tgt := 4) hx hb dX5_well_29 (by decide) ?_
      exact ih1 (x9, x10, r7.2) _ _ hsp hP hD hS _ (lv_sub hl [2, 1, 0] rfl)
    have hsp := itF hsp c8
    refine lv_iconst (v := 1) hx hb dX5_well_19 (by decide) ?_
    refine lv_goto (tgt := 24) hx hb dX5_well_20 (by decide) ?_
    refine lv_iadd hx hb dX5_well_24 ?_
    obtain ⟨x11, ex11, hsp⟩ := nmE hsp
    refine r_top ex11 ?_
    refine lv_istore_n (lv' := [(1, .int x11), (0, .ref a0), (2, .int x2)]) hx hb dX5_well_25 rfl hl (by decide) rfl (fun ls hl => ?_)
    obtain ⟨x12, ex12, hsp⟩ := nmE hsp
    refine lv_iinc (k := 2) (v := x12) (lv' := [(2, .int x12), (1, .int x11), (0, .ref a0)]) hx hb dX5_well_26 hl rfl (by rw [ex12]; rfl) (by decide) rfl (fun ls hl => ?_)
    refine lv_goto (tgt := 4) hx hb dX5_well_29 (by decide) ?_
    exact ih1 (x11, x12, r7.2) _ _ hsp hP hD hS _ (lv_sub hl [2, 1, 0] rfl)

theorem nd_X5_count : yX5_count.cls = RX5 ∧ yX5_count.cls ≠ "java/lang/invoke/MethodHandle" ∧ yX5_count.cls ≠ "java/lang/invoke/VarHandle" ∧ (parseMethodDescriptor yX5_count.desc).map (fun d => d.parameters.length) = some 1 := by decide +kernel
set_option maxHeartbeats 8000000 in
set_option maxRecDepth 100000 in
theorem k_X5_count (l : Launch) (D : va_G) (cI cZ cC cS : ClassId) (sz : Nat) (a0 a1 a7 : Nat) (w0_1 : Value) (w0_2 : Value) (w0_3 : Value) (w0_4 : Value) (w0_5 : Value) (w0_7 : Value) (w0_8 : Value) (g0_9 : Int32) (g0_10 : Int32) (w0_11 : Value) (w0_12 : Value) (f1 : Nat → Int32) (f7 : Nat → Int32) (u1 : Int32) (res : Int32 × (Nat → Int32)) (hsp : s_X5_count g0_9 g0_10 f1 f7 u1 = some res) : Met l yX5_count wsX5_count ({ frames := 4, cells := 0, slots := 0, locals := 88 }) (va_Pc [.ref a0, .int u1] (PB D cI cZ cC cS [(a0, .inr (5, [.ref a1, w0_1, w0_2, w0_3, w0_4, w0_5, .ref a7, w0_7, w0_8, .int g0_9, .int g0_10, w0_11, w0_12])), (a1, .inl (cI, 99, .inl f1)), (a7, .inl (cI, 3, .inl f7))] sz)) (va_Qi (fun r (_ : Unit) => r = res.1) (fun _ t => va_P D vwCl [(a0, .inr (5, [.ref a1, w0_1, w0_2, w0_3, w0_4, w0_5, .ref a7, w0_7, w0_8, .int g0_9, .int g0_10, w0_11, w0_12])), (a1, .inl (cI, 99, .inl f1)), (a7, .inl (cI, 3, .inl res.2))] t.heap) (va_A [(a0, .inr (5, [.ref a1, w0_1, w0_2, w0_3, w0_4, w0_5, .ref a7, w0_7, w0_8, .int g0_9, .int g0_10, w0_11, w0_12])), (a1, .inl (cI, 99, .inl f1)), (a7, .inl (cI, 3, .inl f7))] sz)) 0 0 (va_A [(a0, .inr (5, [.ref a1, w0_1, w0_2, w0_3, w0_4, w0_5, .ref a7, w0_7, w0_8, .int g0_9, .int g0_10, w0_11, w0_12])), (a1, .inl (cI, 99, .inl f1)), (a7, .inl (cI, 3, .inl f7))] sz) := by
  refine Met.ofW (cc := cX5_count) (maxL := 2) (ret := (some .int)) (by decide) rfl ?_
  intro p e s m args below meth c s₁ B hml hv
  obtain ⟨rfl, hsz, hP, hD0, hKU⟩ := hv
  have hx := B.exec
  have hb := B.bytes
  have hr := B.returns
  have hts := atoms_spec (ws := wsX5_count) B.pre
  have hown : s.vm.findClass RX5 = some m.cls := findClass_of_methodNamed B.named
  have hlocks := B.notSynchronized
  have hK := hKU.1
  have hf_7 := hts (.fieldLink RX5 7 "ThinnedPotsModel" "s" "[I") (by decide +kernel)
  have hi_X5 : ∀ w ∈ u_ws RX5 TX5 13, w ∈ wsX5_count := by decide +kernel
  have hf_126 := hts (.fieldLink RX5 126 "ThinnedPotsModel" "length" "I") (by decide +kernel)
  have hf_43 := hts (.fieldLink RX5 43 "ThinnedPotsModel" "states" "I") (by decide +kernel)
  subst hsz
  have hD := hD0.self (sz := s.heap.size)
  generalize hAe : va_A [(a0, .inr (5, [.ref a1, w0_1, w0_2, w0_3, w0_4, w0_5, .ref a7, w0_7, w0_8, .int g0_9, .int g0_10, w0_11, w0_12])), (a1, .inl (cI, 99, .inl f1)), (a7, .inl (cI, 3, .inl f7))] s.heap.size = A at hD ⊢
  have hA : ∀ q : Nat, s.heap.size ≤ q → A q := fun q h => by rw [← hAe]; exact Or.inr h
  have hP : va_P D vwCl [(a0, .inr (5, [.ref a1, w0_1, w0_2, w0_3, w0_4, w0_5, .ref a7, w0_7, w0_8, .int g0_9, .int g0_10, w0_11, w0_12])), (a1, .inl (cI, 99, .inl f1)), (a7, .inl (cI, 3, .inl f7))] s.heap := hP
  generalize hHe : s.heap = H at hP ⊢
  have hS : va_S A s.heap H [] := by rw [hHe]; exact va_S.rf
  have hl := lv_entry ([.ref a0, .int u1]) (n := 2) (Nat.le_of_ble_eq_true rfl)
  rw [lg_entry_eq]
  generalize (lg_sl ([.ref a0, .int u1]) ++ List.replicate (2 - (lg_sl ([.ref a0, .int u1])).length) Slot.unset).toArray = ls at hl ⊢
  have hl : lv_has ls 2 [(0, .ref a0), (1, .int u1)] := hl
  unfold s_X5_count at hsp
  refine lv_iload_n hx hb dX5_count_0 rfl (lv_at hl 1 rfl) ?_
  by_cases c1 : u1 = 0
  · have hsp := itT hsp c1
    refine lv_tableIn (off := 63) (tgt := 64) hx hb dX5_count_1 (by rw [c1]; decide) (by rw [c1]; decide) (by rw [c1]; decide) (by decide) ?_
    refine lv_aload_n hx hb dX5_count_64 rfl (lv_at hl 0 rfl) ?_
    refine va_get (D := D) (ci := 5) (v := .ref a1) (C := RX5) (T := TX5) (N := 13) hx hb hts hi_X5 hown hK hP 0 rfl rfl 0 (by decide) hf_7 (fun _ h9 => h9) rfl dX5_count_65 ?_
    refine lv_iload_n hx hb dX5_count_68 rfl (lv_at hl 1 rfl) ?_
    obtain ⟨x2, ex2, hnx2, hsp⟩ := ldE hsp
    refine r_iald hx hb hK hP 1 0 rfl rfl ex2 hnx2 dX5_count_69 ?_
    have hres := Option.some.inj hsp
    subst hres
    exact W.iret (v := x2) hx hb hr (fun t ht hW => ⟨⟨x2, (), rfl, rfl, P_at ht hP⟩, hS.F ht⟩) hS.2.2 dX5_count_70
  have hsp := itF hsp c1
  by_cases c3 : u1 = 1
  · have hsp := itT hsp c3
    refine lv_tableIn (off := 63) (tgt := 64) hx hb dX5_count_1 (by rw [c3]; decide) (by rw [c3]; decide) (by rw [c3]; decide) (by decide) ?_
    refine lv_aload_n hx hb dX5_count_64 rfl (lv_at hl 0 rfl) ?_
    refine va_get (D := D) (ci := 5) (v := .ref a1) (C := RX5) (T := TX5) (N := 13) hx hb hts hi_X5 hown hK hP 0 rfl rfl 0 (by decide) hf_7 (fun _ h9 => h9) rfl dX5_count_65 ?_
    refine lv_iload_n hx hb dX5_count_68 rfl (lv_at hl 1 rfl) ?_
    obtain ⟨x4, ex4, hnx4, hsp⟩ := ldE hsp
    refine r_iald hx hb hK hP 1 0 rfl rfl ex4 hnx4 dX5_count_69 ?_
    have hres := Option.some.inj hsp
    subst hres
    exact W.iret (v := x4) hx hb hr (fun t ht hW => ⟨⟨x4, (), rfl, rfl, P_at ht hP⟩, hS.F ht⟩) hS.2.2 dX5_count_70
  have hsp := itF hsp c3
  by_cases c5 : u1 = 2
  · have hsp := itT hsp c5
    refine lv_tableIn (off := 63) (tgt := 64) hx hb dX5_count_1 (by rw [c5]; decide) (by rw [c5]; decide) (by rw [c5]; decide) (by decide) ?_
    refine lv_aload_n hx hb dX5_count_64 rfl (lv_at hl 0 rfl) ?_
    refine va_get (D := D) (ci := 5) (v := .ref a1) (C := RX5) (T := TX5) (N := 13) hx hb hts hi_X5 hown hK hP 0 rfl rfl 0 (by decide) hf_7 (fun _ h9 => h9) rfl dX5_count_65 ?_
    refine lv_iload_n hx hb dX5_count_68 rfl (lv_at hl 1 rfl) ?_
    obtain ⟨x6, ex6, hnx6, hsp⟩ := ldE hsp
    refine r_iald hx hb hK hP 1 0 rfl rfl ex6 hnx6 dX5_count_69 ?_
    have hres := Option.some.inj hsp
    subst hres
    exact W.iret (v := x6) hx hb hr (fun t ht hW => ⟨⟨x6, (), rfl, rfl, P_at ht hP⟩, hS.F ht⟩) hS.2.2 dX5_count_70
  have hsp := itF hsp c5
  by_cases c7 : u1 = 3
  · have hsp := itT hsp c7
    refine lv_tableIn (off := 70) (tgt := 71) hx hb dX5_count_1 (by rw [c7]; decide) (by rw [c7]; decide) (by rw [c7]; decide) (by decide) ?_
    refine lv_aload_n hx hb dX5_count_71 rfl (lv_at hl 0 rfl) ?_
    obtain ⟨r8, hcr8, hsp⟩ := clE hsp
    refine call_i (w1 := [(a0, .inr (5, [.ref a1, w0_1, w0_2, w0_3, w0_4, w0_5, .ref a7, w0_7, w0_8, .int g0_9, .int g0_10, w0_11, w0_12])), (a1, .inl (cI, 99, .inl f1))]) (ws' := [(a0, .inr (5, [.ref a1, w0_1, w0_2, w0_3, w0_4, w0_5, .ref a7, w0_7, w0_8, .int g0_9, .int g0_10, w0_11, w0_12])), (a1, .inl (cI, 99, .inl f1)), (a7, .inl (cI, 3, .inl f7))]) (va_runV (As := []) (rest := []) ⟨hx, hb, hml, hown, hts⟩ (k_X5_inPots l D cI cZ cC cS H.size a0 a1 (w0_1) (w0_2) (w0_3) (w0_4) (w0_5) (.ref a7) (w0_7) (w0_8) (.int g0_9) (.int g0_10) (w0_11) (w0_12) f1 r8 hcr8) (cwV 0 hts gX5_count_X5_inPots rfl rfl rfl nd_X5_inPots ⟨Nat.le_of_ble_eq_true rfl, Nat.le_of_ble_eq_true rfl⟩) (PB.preV (ci := 5) (q0 := 0) hKU hP hD [0, 1] rfl rfl rfl rfl) rfl rfl hl.1 rfl (lv_room (Nat.le_of_ble_eq_true rfl)) dX5_count_72 ⟨Nat.zero_le _, Nat.zero_le _⟩) hS hP hD hA [0, 1] rfl rfl (by first | (simp only [wset, List.set_cons_zero, List.set_cons_succ]; done) | rfl) rfl (fun H locs hP hD hS => ?_)
    have hres := Option.some.inj hsp
    subst hres
    exact W.iret (v := r8) hx hb hr (fun t ht hW => ⟨⟨r8, (), rfl, rfl, P_at ht hP⟩, hS.F ht⟩) hS.2.2 dX5_count_75
  have hsp := itF hsp c7
  by_cases c9 : u1 = 4
  · have hsp := itT hsp c9
    refine lv_tableIn (off := 75) (tgt := 76) hx hb dX5_count_1 (by rw [c9]; decide) (by rw [c9]; decide) (by rw [c9]; decide) (by decide) ?_
    refine lv_aload_n hx hb dX5_count_76 rfl (lv_at hl 0 rfl) ?_
    refine va_get (D := D) (ci := 5) (v := .ref a1) (C := RX5) (T := TX5) (N := 13) hx hb hts hi_X5 hown hK hP 0 rfl rfl 0 (by decide) hf_7 (fun _ h9 => h9) rfl dX5_count_77 ?_
    refine lv_iconst (v := 3) hx hb dX5_count_80 (by decide) ?_
    obtain ⟨x10, ex10, hnx10, hsp⟩ := ldE hsp
    refine r_iald hx hb hK hP 1 0 rfl rfl ex10 hnx10 dX5_count_81 ?_
    have hres := Option.some.inj hsp
    subst hres
    exact W.iret (v := x10) hx hb hr (fun t ht hW => ⟨⟨x10, (), rfl, rfl, P_at ht hP⟩, hS.F ht⟩) hS.2.2 dX5_count_82
  have hsp := itF hsp c9
  by_cases c11 : u1 = 5
  · have hsp := itT hsp c11
    refine lv_tableIn (off := 82) (tgt := 83) hx hb dX5_count_1 (by rw [c11]; decide) (by rw [c11]; decide) (by rw [c11]; decide) (by decide) ?_
    refine lv_aload_n hx hb dX5_count_83 rfl (lv_at hl 0 rfl) ?_
    refine va_get (D := D) (ci := 5) (v := .ref a1) (C := RX5) (T := TX5) (N := 13) hx hb hts hi_X5 hown hK hP 0 rfl rfl 0 (by decide) hf_7 (fun _ h9 => h9) rfl dX5_count_84 ?_
    refine lv_iconst (v := 4) hx hb dX5_count_87 (by decide) ?_
    obtain ⟨x12, ex12, hnx12, hsp⟩ := ldE hsp
    refine r_iald hx hb hK hP 1 0 rfl rfl ex12 hnx12 dX5_count_88 ?_
    have hres := Option.some.inj hsp
    subst hres
    exact W.iret (v := x12) hx hb hr (fun t ht hW => ⟨⟨x12, (), rfl, rfl, P_at ht hP⟩, hS.F ht⟩) hS.2.2 dX5_count_89
  have hsp := itF hsp c11
  by_cases c13 : u1 = 6
  · have hsp := itT hsp c13
    refine lv_tableIn (off := 89) (tgt := 90) hx hb dX5_count_1 (by rw [c13]; decide) (by rw [c13]; decide) (by rw [c13]; decide) (by decide) ?_
    refine lv_aload_n hx hb dX5_count_90 rfl (lv_at hl 0 rfl) ?_
    obtain ⟨r14, hcr14, hsp⟩ := clE hsp
    refine call_i (w1 := [(a0, .inr (5, [.ref a1, w0_1, w0_2, w0_3, w0_4, w0_5, .ref a7, w0_7, w0_8, .int g0_9, .int g0_10, w0_11, w0_12])), (a1, .inl (cI, 99, .inl f1))]) (ws' := [(a0, .inr (5, [.ref a1, w0_1, w0_2, w0_3, w0_4, w0_5, .ref a7, w0_7, w0_8, .int g0_9, .int g0_10, w0_11, w0_12])), (a1, .inl (cI, 99, .inl f1)), (a7, .inl (cI, 3, .inl f7))]) (va_runV (As := []) (rest := []) ⟨hx, hb, hml, hown, hts⟩ (k_X5_painted l D cI cZ cC cS H.size a0 a1 (w0_1) (w0_2) (w0_3) (w0_4) (w0_5) (.ref a7) (w0_7) (w0_8) (.int g0_9) (.int g0_10) (w0_11) (w0_12) f1 r14 hcr14) (cwV 0 hts gX5_count_X5_painted rfl rfl rfl nd_X5_painted ⟨Nat.le_of_ble_eq_true rfl, Nat.le_of_ble_eq_true rfl⟩) (PB.preV (ci := 5) (q0 := 0) hKU hP hD [0, 1] rfl rfl rfl rfl) rfl rfl hl.1 rfl (lv_room (Nat.le_of_ble_eq_true rfl)) dX5_count_91 ⟨Nat.zero_le _, Nat.zero_le _⟩) hS hP hD hA [0, 1] rfl rfl (by first | (simp only [wset, List.set_cons_zero, List.set_cons_succ]; done) | rfl) rfl (fun H locs hP hD hS => ?_)
    have hres := Option.some.inj hsp
    subst hres
    exact W.iret (v := r14) hx hb hr (fun t ht hW => ⟨⟨r14, (), rfl, rfl, P_at ht hP⟩, hS.F ht⟩) hS.2.2 dX5_count_94
  have hsp := itF hsp c13
  by_cases c15 : u1 = 7
  · have hsp := itT hsp c15
    refine lv_tableIn (off := 94) (tgt := 95) hx hb dX5_count_1 (by rw [c15]; decide) (by rw [c15]; decide) (by rw [c15]; decide) (by decide) ?_
    refine lv_aload_n hx hb dX5_count_95 rfl (lv_at hl 0 rfl) ?_
    obtain ⟨r16, hcr16, hsp⟩ := clE hsp
    refine call_i (w1 := [(a0, .inr (5, [.ref a1, w0_1, w0_2, w0_3, w0_4, w0_5, .ref a7, w0_7, w0_8, .int g0_9, .int g0_10, w0_11, w0_12])), (a1, .inl (cI, 99, .inl f1)), (a7, .inl (cI, 3, .inl r16.2))]) (ws' := [(a0, .inr (5, [.ref a1, w0_1, w0_2, w0_3, w0_4, w0_5, .ref a7, w0_7, w0_8, .int g0_9, .int g0_10, w0_11, w0_12])), (a1, .inl (cI, 99, .inl f1)), (a7, .inl (cI, 3, .inl r16.2))]) (va_runV (As := []) (rest := []) ⟨hx, hb, hml, hown, hts⟩ (k_X5_well l D cI cZ cC cS H.size a0 a1 a7 (w0_1) (w0_2) (w0_3) (w0_4) (w0_5) (w0_7) (w0_8) (.int g0_9) (.int g0_10) (w0_11) (w0_12) f1 f7 r16 hcr16) (cwV 0 hts gX5_count_X5_well rfl rfl rfl nd_X5_well ⟨Nat.le_of_ble_eq_true rfl, Nat.le_of_ble_eq_true rfl⟩) (PB.preV (ci := 5) (q0 := 0) hKU hP hD [0, 1, 2] rfl rfl rfl rfl) rfl rfl hl.1 rfl (lv_room (Nat.le_of_ble_eq_true rfl)) dX5_count_96 ⟨Nat.zero_le _, Nat.zero_le _⟩) hS hP hD hA [0, 1, 2] rfl rfl (by first | (simp only [wset, List.set_cons_zero, List.set_cons_succ]; done) | rfl) rfl (fun H locs hP hD hS => ?_)
    have hres := Option.some.inj hsp
    subst hres
    exact W.iret (v := r16.1) hx hb hr (fun t ht hW => ⟨⟨r16.1, (), rfl, rfl, P_at ht hP⟩, hS.F ht⟩) hS.2.2 dX5_count_99
  have hsp := itF hsp c15
  by_cases c17 : u1 = 8
  · have hsp := itT hsp c17
    refine lv_tableIn (off := 99) (tgt := 100) hx hb dX5_count_1 (by rw [c17]; decide) (by rw [c17]; decide) (by rw [c17]; decide) (by decide) ?_
    refine lv_aload_n hx hb dX5_count_100 rfl (lv_at hl 0 rfl) ?_
    refine va_get (D := D) (ci := 5) (v := .ref a1) (C := RX5) (T := TX5) (N := 13) hx hb hts hi_X5 hown hK hP 0 rfl rfl 0 (by decide) hf_7 (fun _ h9 => h9) rfl dX5_count_101 ?_
    refine lv_iconst (v := 5) hx hb dX5_count_104 (by decide) ?_
    obtain ⟨x18, ex18, hnx18, hsp⟩ := ldE hsp
    refine r_iald hx hb hK hP 1 0 rfl rfl ex18 hnx18 dX5_count_105 ?_
    have hres := Option.some.inj hsp
    subst hres
    exact W.iret (v := x18) hx hb hr (fun t ht hW => ⟨⟨x18, (), rfl, rfl, P_at ht hP⟩, hS.F ht⟩) hS.2.2 dX5_count_106
  have hsp := itF hsp c17
  by_cases c19 : u1 = 9
  · have hsp := itT hsp c19
    refine lv_tableIn (off := 106) (tgt := 107) hx hb dX5_count_1 (by rw [c19]; decide) (by rw [c19]; decide) (by rw [c19]; decide) (by decide) ?_
    refine lv_aload_n hx hb dX5_count_107 rfl (lv_at hl 0 rfl) ?_
    refine va_get (D := D) (ci := 5) (v := .ref a1) (C := RX5) (T := TX5) (N := 13) hx hb hts hi_X5 hown hK hP 0 rfl rfl 0 (by decide) hf_7 (fun _ h9 => h9) rfl dX5_count_108 ?_
    refine lv_bipush (v := 6) hx hb dX5_count_111 (by decide) ?_
    obtain ⟨x20, ex20, hnx20, hsp⟩ := ldE hsp
    refine r_iald hx hb hK hP 1 0 rfl rfl ex20 hnx20 dX5_count_113 ?_
    have hres := Option.some.inj hsp
    subst hres
    exact W.iret (v := x20) hx hb hr (fun t ht hW => ⟨⟨x20, (), rfl, rfl, P_at ht hP⟩, hS.F ht⟩) hS.2.2 dX5_count_114
  have hsp := itF hsp c19
  by_cases c21 : u1 = 10
  · have hsp := itT hsp c21
    refine lv_tableIn (off := 114) (tgt := 115) hx hb dX5_count_1 (by rw [c21]; decide) (by rw [c21]; decide) (by rw [c21]; decide) (by decide) ?_
    refine lv_aload_n hx hb dX5_count_115 rfl (lv_at hl 0 rfl) ?_
    refine va_get (D := D) (ci := 5) (v := .int g0_9) (C := RX5) (T := TX5) (N := 13) hx hb hts hi_X5 hown hK hP 0 rfl rfl 9 (by decide) hf_126 (fun _ h9 => h9) rfl dX5_count_116 ?_
    have hres := Option.some.inj hsp
    subst hres
    exact W.iret (v := g0_9) hx hb hr (fun t ht hW => ⟨⟨g0_9, (), rfl, rfl, P_at ht hP⟩, hS.F ht⟩) hS.2.2 dX5_count_119
  have hsp := itF hsp c21
  by_cases c22 : u1 = 11
  · have hsp := itT hsp c22
    refine lv_tableIn (off := 119) (tgt := 120) hx hb dX5_count_1 (by rw [c22]; decide) (by rw [c22]; decide) (by rw [c22]; decide) (by decide) ?_
    refine lv_aload_n hx hb dX5_count_120 rfl (lv_at hl 0 rfl) ?_
    refine va_get (D := D) (ci := 5) (v := .int g0_10) (C := RX5) (T := TX5) (N := 13) hx hb hts hi_X5 hown hK hP 0 rfl rfl 10 (by decide) hf_43 (fun _ h9 => h9) rfl dX5_count_121 ?_
    have hres := Option.some.inj hsp
    subst hres
    exact W.iret (v := g0_10) hx hb hr (fun t ht hW => ⟨⟨g0_10, (), rfl, rfl, P_at ht hP⟩, hS.F ht⟩) hS.2.2 dX5_count_124
  have hsp := itF hsp c22
  have tc1 := lv_neT (a := 0) c1 (by decide)
  have tc3 := lv_neT (a := 1) c3 (by decide)
  have tc5 := lv_neT (a := 2) c5 (by decide)
  have tc7 := lv_neT (a := 3) c7 (by decide)
  have tc9 := lv_neT (a := 4) c9 (by decide)
  have tc11 := lv_neT (a := 5) c11 (by decide)
  have tc13 := lv_neT (a := 6) c13 (by decide)
  have tc15 := lv_neT (a := 7) c15 (by decide)
  have tc17 := lv_neT (a := 8) c17 (by decide)
  have tc19 := lv_neT (a := 9) c19 (by decide)
  have tc21 := lv_neT (a := 10) c21 (by decide)
  have tc22 := lv_neT (a := 11) c22 (by decide)
  refine lv_tableOut (tgt := 125) hx hb dX5_count_1 (by omega) (by decide) ?_
  refine lv_bipush (v := (-2)) hx hb dX5_count_125 (by decide) ?_
  have hres := Option.some.inj hsp
  subst hres
  exact W.iret (v := (-2)) hx hb hr (fun t ht hW => ⟨⟨(-2), (), rfl, rfl, P_at ht hP⟩, hS.F ht⟩) hS.2.2 dX5_count_127

theorem nd_X5_digit : yX5_digit.cls = RX5 ∧ yX5_digit.cls ≠ "java/lang/invoke/MethodHandle" ∧ yX5_digit.cls ≠ "java/lang/invoke/VarHandle" ∧ (parseMethodDescriptor yX5_digit.desc).map (fun d => d.parameters.length) = some 3 := by decide +kernel
set_option maxHeartbeats 8000000 in
set_option maxRecDepth 100000 in
theorem k_X5_digit (l : Launch) (D : va_G) (cI cZ cC cS : ClassId) (sz : Nat) (a0 a8 a9 : Nat) (w0_0 : Value) (w0_1 : Value) (w0_2 : Value) (w0_3 : Value) (w0_4 : Value) (w0_5 : Value) (w0_6 : Value) (g0_9 : Int32) (w0_10 : Value) (g0_11 : Int32) (g0_12 : Int32) (f8 : Nat → Int32) (f9 : Nat → Int32) (u1 : Int32) (u2 : Int32) (u3 : Int32) (res : Int32 × Int32 × (Nat → Int32)) (hsp : s_X5_digit g0_9 g0_11 g0_12 f8 f9 u1 u2 u3 = some res) : Met l yX5_digit wsX5_digit ({ frames := 1, cells := 0, slots := 0, locals := 22 }) (va_Pc [.ref a0, .int u1, .int u2, .int u3] (PB D cI cZ cC cS [(a0, .inr (5, [w0_0, w0_1, w0_2, w0_3, w0_4, w0_5, w0_6, .ref a8, .ref a9, .int g0_9, w0_10, .int g0_11, .int g0_12])), (a8, .inl (cI, 192, .inl f8)), (a9, .inl (cC, 60, .inl f9))] sz)) (va_Qi (fun r (_ : Unit) => r = res.1 ∧ (res.1 = 0 ∨ res.1 = 1)) (fun _ t => va_P D vwCl [(a0, .inr (5, [w0_0, w0_1, w0_2, w0_3, w0_4, w0_5, w0_6, .ref a8, .ref a9, .int g0_9, w0_10, .int g0_11, .int res.2.1])), (a8, .inl (cI, 192, .inl res.2.2)), (a9, .inl (cC, 60, .inl f9))] t.heap) (va_A [(a0, .inr (5, [w0_0, w0_1, w0_2, w0_3, w0_4, w0_5, w0_6, .ref a8, .ref a9, .int g0_9, w0_10, .int g0_11, .int g0_12])), (a8, .inl (cI, 192, .inl f8)), (a9, .inl (cC, 60, .inl f9))] sz)) 0 0 (va_A [(a0, .inr (5, [w0_0, w0_1, w0_2, w0_3, w0_4, w0_5, w0_6, .ref a8, .ref a9, .int g0_9, w0_10, .int g0_11, .int g0_12])), (a8, .inl (cI, 192, .inl f8)), (a9, .inl (cC, 60, .inl f9))] sz) := by
  refine Met.ofW (cc := cX5_digit) (maxL := 5) (ret := (some .boolean)) (by decide) rfl ?_
  intro p e s m args below meth c s₁ B hml hv
  obtain ⟨rfl, hsz, hP, hD0, hKU⟩ := hv
  have hx := B.exec
  have hb := B.bytes
  have hr := B.returns
  have hts := atoms_spec (ws := wsX5_digit) B.pre
  have hown : s.vm.findClass RX5 = some m.cls := findClass_of_methodNamed B.named
  have hlocks := B.notSynchronized
  have hK := hKU.1
  have hf_32 := hts (.fieldLink RX5 32 "ThinnedPotsModel" "read" "[I") (by decide +kernel)
  have hi_X5 : ∀ w ∈ u_ws RX5 TX5 13, w ∈ wsX5_digit := by decide +kernel
  have hf_133 := hts (.fieldLink RX5 133 "ThinnedPotsModel" "works" "I") (by decide +kernel)
  have hf_123 := hts (.fieldLink RX5 123 "ThinnedPotsModel" "at" "I") (by decide +kernel)
  have hf_35 := hts (.fieldLink RX5 35 "ThinnedPotsModel" "pad" "[C") (by decide +kernel)
  subst hsz
  have hD := hD0.self (sz := s.heap.size)
  generalize hAe : va_A [(a0, .inr (5, [w0_0, w0_1, w0_2, w0_3, w0_4, w0_5, w0_6, .ref a8, .ref a9, .int g0_9, w0_10, .int g0_11, .int g0_12])), (a8, .inl (cI, 192, .inl f8)), (a9, .inl (cC, 60, .inl f9))] s.heap.size = A at hD ⊢
  have hA : ∀ q : Nat, s.heap.size ≤ q → A q := fun q h => by rw [← hAe]; exact Or.inr h
  have hP : va_P D vwCl [(a0, .inr (5, [w0_0, w0_1, w0_2, w0_3, w0_4, w0_5, w0_6, .ref a8, .ref a9, .int g0_9, w0_10, .int g0_11, .int g0_12])), (a8, .inl (cI, 192, .inl f8)), (a9, .inl (cC, 60, .inl f9))] s.heap := hP
  generalize hHe : s.heap = H at hP ⊢
  have hS : va_S A s.heap H [] := by rw [hHe]; exact va_S.rf
  have hl := lv_entry ([.ref a0, .int u1, .int u2, .int u3]) (n := 5) (Nat.le_of_ble_eq_true rfl)
  rw [lg_entry_eq]
  generalize (lg_sl ([.ref a0, .int u1, .int u2, .int u3]) ++ List.replicate (5 - (lg_sl ([.ref a0, .int u1, .int u2, .int u3])).length) Slot.unset).toArray = ls at hl ⊢
  have hl : lv_has ls 5 [(0, .ref a0), (1, .int u1), (2, .int u2), (3, .int u3)] := hl
  unfold s_X5_digit at hsp
  refine lv_aload_n hx hb dX5_digit_0 rfl (lv_at hl 0 rfl) ?_
  refine lv_iload_n hx hb dX5_digit_1 rfl (lv_at hl 2 rfl) ?_
  refine lv_iload_n hx hb dX5_digit_2 rfl (lv_at hl 3 rfl) ?_
  obtain ⟨r1, hcr1, hsp⟩ := clE hsp
  refine call_z (w1 := [(a0, .inr (5, [w0_0, w0_1, w0_2, w0_3, w0_4, w0_5, w0_6, .ref a8, .ref a9, .int g0_9, w0_10, .int g0_11, .int g0_12])), (a9, .inl (cC, 60, .inl f9))]) (ws' := [(a0, .inr (5, [w0_0, w0_1, w0_2, w0_3, w0_4, w0_5, w0_6, .ref a8, .ref a9, .int g0_9, w0_10, .int g0_11, .int g0_12])), (a8, .inl (cI, 192, .inl f8)), (a9, .inl (cC, 60, .inl f9))]) (va_runV (As := [.int u2, .int u3]) (rest := []) ⟨hx, hb, hml, hown, hts⟩ (k_X5_isSign l D cI cZ cC cS H.size a0 a9 (w0_0) (w0_1) (w0_2) (w0_3) (w0_4) (w0_5) (w0_6) (.ref a8) g0_9 (w0_10) (.int g0_11) g0_12 f9 u2 u3 r1 hcr1) (cwV 2 hts gX5_digit_X5_isSign rfl rfl rfl nd_X5_isSign ⟨Nat.le_of_ble_eq_true rfl, Nat.le_of_ble_eq_true rfl⟩) (PB.preV (ci := 5) (q0 := 0) hKU hP hD [0, 2] rfl rfl rfl rfl) rfl rfl hl.1 rfl (lv_room (Nat.le_of_ble_eq_true rfl)) dX5_digit_3 ⟨Nat.zero_le _, Nat.zero_le _⟩) hS hP hD hA [0, 2] rfl rfl (by first | (simp only [wset, List.set_cons_zero, List.set_cons_succ]; done) | rfl) rfl (fun H locs hP hD hS hzr1 => ?_)
  refine lv_istore (lv' := [(4, .int r1), (0, .ref a0), (1, .int u1), (2, .int u2), (3, .int u3)]) hx hb dX5_digit_6 hl (by decide) rfl (fun ls hl => ?_)
  refine lv_aload_n hx hb dX5_digit_8 rfl (lv_at hl 1 rfl) ?_
  refine va_get (D := D) (ci := 5) (v := .ref a8) (C := RX5) (T := TX5) (N := 13) hx hb hts hi_X5 hown hK hP 0 rfl rfl 7 (by decide) hf_32 (fun _ h9 => h9) rfl dX5_digit_9 ?_
  refine lv_bipush (v := 6) hx hb dX5_digit_12 (by decide) ?_
  refine lv_aload_n hx hb dX5_digit_14 rfl (lv_at hl 1 rfl) ?_
  refine va_get (D := D) (ci := 5) (v := .int g0_11) (C := RX5) (T := TX5) (N := 13) hx hb hts hi_X5 hown hK hP 0 rfl rfl 11 (by decide) hf_133 (fun _ h9 => h9) rfl dX5_digit_15 ?_
  refine lv_imul hx hb dX5_digit_18 ?_
  refine lv_iload_n hx hb dX5_digit_19 rfl (lv_at hl 2 rfl) ?_
  refine lv_iadd hx hb dX5_digit_20 ?_
  refine lv_iload hx hb dX5_digit_21 (lv_at hl 0 rfl) ?_
  refine lv_if_eq (tgt := 41) hx hb dX5_digit_23 (by decide) (fun c2 => ?_) (fun c2 => ?_)
  · have hsp := itT hsp c2
    refine lv_iconst (v := 0) hx hb dX5_digit_41 (by decide) ?_
    obtain ⟨y3, ey3, hny3, hsp⟩ := stoE hsp
    refine r_iast (ws' := [(a0, .inr (5, [w0_0, w0_1, w0_2, w0_3, w0_4, w0_5, w0_6, .ref a8, .ref a9, .int g0_9, w0_10, .int g0_11, .int g0_12])), (a8, .inl (cI, 192, .inl y3)), (a9, .inl (cC, 60, .inl f9))]) hx hb hK hP hD hS 1 0 rfl rfl ey3 hny3 rfl dX5_digit_42 (fun H locs hP hD hS => ?_)
    refine lv_aload_n hx hb dX5_digit_43 rfl (lv_at hl 1 rfl) ?_
    refine lv_dup hx hb dX5_digit_44 rfl ?_
    refine va_get (D := D) (ci := 5) (v := .int g0_12) (C := RX5) (T := TX5) (N := 13) hx hb hts hi_X5 hown hK hP 0 rfl rfl 12 (by decide) hf_123 (fun _ h9 => h9) rfl dX5_digit_45 ?_
    refine lv_iload hx hb dX5_digit_48 (lv_at hl 0 rfl) ?_
    refine lv_if_eq (tgt := 57) hx hb dX5_digit_50 (by decide) (fun c4 => ?_) (fun c4 => ?_)
    · have hsp := itT hsp c4
      refine lv_iconst (v := 0) hx hb dX5_digit_57 (by decide) ?_
      refine lv_iadd hx hb dX5_digit_58 ?_
      obtain ⟨x5, ex5, hsp⟩ := nmE hsp
      refine r_top ex5 ?_
      refine va_put (D := D) (ci := 5) (v := .int x5) (ty := .int) (C := RX5) (T := TX5) (N := 13) hx hb hts hi_X5 tyX5 tyX5_ok nmX5 hown hK hP hD hS 0 rfl rfl 12 (by decide) hf_123 (fun _ h9 => h9) rfl (by decide +kernel) rfl rfl (Nat.le_of_ble_eq_true rfl) dX5_digit_59 (fun H locs hP hD hS => ?_)
      have hP : va_P D vwCl [(a0, .inr (5, [w0_0, w0_1, w0_2, w0_3, w0_4, w0_5, w0_6, .ref a8, .ref a9, .int g0_9, w0_10, .int g0_11, .int x5])), (a8, .inl (cI, 192, .inl y3)), (a9, .inl (cC, 60, .inl f9))] H := hP
      have hD : va_D A [(a0, .inr (5, [w0_0, w0_1, w0_2, w0_3, w0_4, w0_5, w0_6, .ref a8, .ref a9, .int g0_9, w0_10, .int g0_11, .int x5])), (a8, .inl (cI, 192, .inl y3)), (a9, .inl (cC, 60, .inl f9))] := hD
      refine lv_iload hx hb dX5_digit_62 (lv_at hl 0 rfl) ?_
      have hres := Option.some.inj hsp
      subst hres
      exact W.zret (v := r1) hx hb hr (zE hzr1) (fun t ht hW => ⟨⟨r1, (), rfl, ⟨rfl, hzr1⟩, P_at ht hP⟩, hS.F ht⟩) hS.2.2 dX5_digit_64
    have hsp := itF hsp c4
    refine lv_iconst (v := 1) hx hb dX5_digit_53 (by decide) ?_
    refine lv_goto (tgt := 58) hx hb dX5_digit_54 (by decide) ?_
    refine lv_iadd hx hb dX5_digit_58 ?_
    obtain ⟨x6, ex6, hsp⟩ := nmE hsp
    refine r_top ex6 ?_
    refine va_put (D := D) (ci := 5) (v := .int x6) (ty := .int) (C := RX5) (T := TX5) (N := 13) hx hb hts hi_X5 tyX5 tyX5_ok nmX5 hown hK hP hD hS 0 rfl rfl 12 (by decide) hf_123 (fun _ h9 => h9) rfl (by decide +kernel) rfl rfl (Nat.le_of_ble_eq_true rfl) dX5_digit_59 (fun H locs hP hD hS => ?_)
    have hP : va_P D vwCl [(a0, .inr (5, [w0_0, w0_1, w0_2, w0_3, w0_4, w0_5, w0_6, .ref a8, .ref a9, .int g0_9, w0_10, .int g0_11, .int x6])), (a8, .inl (cI, 192, .inl y3)), (a9, .inl (cC, 60, .inl f9))] H := hP
    have hD : va_D A [(a0, .inr (5, [w0_0, w0_1, w0_2, w0_3, w0_4, w0_5, w0_6, .ref a8, .ref a9, .int g0_9, w0_10, .int g0_11, .int x6])), (a8, .inl (cI, 192, .inl y3)), (a9, .inl (cC, 60, .inl f9))] := hD
    refine lv_iload hx hb dX5_digit_62 (lv_at hl 0 rfl) ?_
    have hres := Option.some.inj hsp
    subst hres
    exact W.zret (v := r1) hx hb hr (zE hzr1) (fun t ht hW => ⟨⟨r1, (), rfl, ⟨rfl, hzr1⟩, P_at ht hP⟩, hS.F ht⟩) hS.2.2 dX5_digit_64
  have hsp := itF hsp c2
  refine lv_aload_n hx hb dX5_digit_26 rfl (lv_at hl 1 rfl) ?_
  refine va_get (D := D) (ci := 5) (v := .ref a9) (C := RX5) (T := TX5) (N := 13) hx hb hts hi_X5 hown hK hP 0 rfl rfl 8 (by decide) hf_35 (fun _ h9 => h9) rfl dX5_digit_27 ?_
  refine lv_aload_n hx hb dX5_digit_30 rfl (lv_at hl 1 rfl) ?_
  refine va_get (D := D) (ci := 5) (v := .int g0_12) (C := RX5) (T := TX5) (N := 13) hx hb hts hi_X5 hown hK hP 0 rfl rfl 12 (by decide) hf_123 (fun _ h9 => h9) rfl dX5_digit_31 ?_
  obtain ⟨x7, ex7, hnx7, hsp⟩ := ldE hsp
  refine r_cald hx hb hK hP 2 2 rfl rfl ex7 hnx7 dX5_digit_34 ?_
  refine lv_bipush (v := 48) hx hb dX5_digit_35 (by decide) ?_
  refine lv_isub hx hb dX5_digit_37 ?_
  refine lv_goto (tgt := 42) hx hb dX5_digit_38 (by decide) ?_
  obtain ⟨x8, ex8, hsp⟩ := nmE hsp
  refine r_top ex8 ?_
  obtain ⟨y9, ey9, hny9, hsp⟩ := stoE hsp
  refine r_iast (ws' := [(a0, .inr (5, [w0_0, w0_1, w0_2, w0_3, w0_4, w0_5, w0_6, .ref a8, .ref a9, .int g0_9, w0_10, .int g0_11, .int g0_12])), (a8, .inl (cI, 192, .inl y9)), (a9, .inl (cC, 60, .inl f9))]) hx hb hK hP hD hS 1 0 rfl rfl ey9 hny9 rfl dX5_digit_42 (fun H locs hP hD hS => ?_)
  refine lv_aload_n hx hb dX5_digit_43 rfl (lv_at hl 1 rfl) ?_
  refine lv_dup hx hb dX5_digit_44 rfl ?_
  refine va_get (D := D) (ci := 5) (v := .int g0_12) (C := RX5) (T := TX5) (N := 13) hx hb hts hi_X5 hown hK hP 0 rfl rfl 12 (by decide) hf_123 (fun _ h9 => h9) rfl dX5_digit_45 ?_
  refine lv_iload hx hb dX5_digit_48 (lv_at hl 0 rfl) ?_
  refine lv_if_eq (tgt := 57) hx hb dX5_digit_50 (by decide) (fun c10 => ?_) (fun c10 => ?_)
  · have hsp := itT hsp c10
    refine lv_iconst (v := 0) hx hb dX5_digit_57 (by decide) ?_
    refine lv_iadd hx hb dX5_digit_58 ?_
    obtain ⟨x11, ex11, hsp⟩ := nmE hsp
    refine r_top ex11 ?_
    refine va_put (D := D) (ci := 5) (v := .int x11) (ty := .int) (C := RX5) (T := TX5) (N := 13) hx hb hts hi_X5 tyX5 tyX5_ok nmX5 hown hK hP hD hS 0 rfl rfl 12 (by decide) hf_123 (fun _ h9 => h9) rfl (by decide +kernel) rfl rfl (Nat.le_of_ble_eq_true rfl) dX5_digit_59 (fun H locs hP hD hS => ?_)
    have hP : va_P D vwCl [(a0, .inr (5, [w0_0, w0_1, w0_2, w0_3, w0_4, w0_5, w0_6, .ref a8, .ref a9, .int g0_9, w0_10, .int g0_11, .int x11])), (a8, .inl (cI, 192, .inl y9)), (a9, .inl (cC, 60, .inl f9))] H := hP
    have hD : va_D A [(a0, .inr (5, [w0_0, w0_1, w0_2, w0_3, w0_4, w0_5, w0_6, .ref a8, .ref a9, .int g0_9, w0_10, .int g0_11, .int x11])), (a8, .inl (cI, 192, .inl y9)), (a9, .inl (cC, 60, .inl f9))] := hD
    refine lv_iload hx hb dX5_digit_62 (lv_at hl 0 rfl) ?_
    have hres := Option.some.inj hsp
    subst hres
    exact W.zret (v := r1) hx hb hr (zE hzr1) (fun t ht hW => ⟨⟨r1, (), rfl, ⟨rfl, hzr1⟩, P_at ht hP⟩, hS.F ht⟩) hS.2.2 dX5_digit_64
  have hsp := itF hsp c10
  refine lv_iconst (v := 1) hx hb dX5_digit_53 (by decide) ?_
  refine lv_goto (tgt := 58) hx hb dX5_digit_54 (by decide) ?_
  refine lv_iadd hx hb dX5_digit_58 ?_
  obtain ⟨x12, ex12, hsp⟩ := nmE hsp
  refine r_top ex12 ?_
  refine va_put (D := D) (ci := 5) (v := .int x12) (ty := .int) (C := RX5) (T := TX5) (N := 13) hx hb hts hi_X5 tyX5 tyX5_ok nmX5 hown hK hP hD hS 0 rfl rfl 12 (by decide) hf_123 (fun _ h9 => h9) rfl (by decide +kernel) rfl rfl (Nat.le_of_ble_eq_true rfl) dX5_digit_59 (fun H locs hP hD hS => ?_)
  have hP : va_P D vwCl [(a0, .inr (5, [w0_0, w0_1, w0_2, w0_3, w0_4, w0_5, w0_6, .ref a8, .ref a9, .int g0_9, w0_10, .int g0_11, .int x12])), (a8, .inl (cI, 192, .inl y9)), (a9, .inl (cC, 60, .inl f9))] H := hP
  have hD : va_D A [(a0, .inr (5, [w0_0, w0_1, w0_2, w0_3, w0_4, w0_5, w0_6, .ref a8, .ref a9, .int g0_9, w0_10, .int g0_11, .int x12])), (a8, .inl (cI, 192, .inl y9)), (a9, .inl (cC, 60, .inl f9))] := hD
  refine lv_iload hx hb dX5_digit_62 (lv_at hl 0 rfl) ?_
  have hres := Option.some.inj hsp
  subst hres
  exact W.zret (v := r1) hx hb hr (zE hzr1) (fun t ht hW => ⟨⟨r1, (), rfl, ⟨rfl, hzr1⟩, P_at ht hP⟩, hS.F ht⟩) hS.2.2 dX5_digit_64

theorem nd_X5_hold : yX5_hold.cls = RX5 ∧ yX5_hold.cls ≠ "java/lang/invoke/MethodHandle" ∧ yX5_hold.cls ≠ "java/lang/invoke/VarHandle" ∧ (parseMethodDescriptor yX5_hold.desc).map (fun d => d.parameters.length) = some 0 := by decide +kernel
set_option maxHeartbeats 8000000 in
set_option maxRecDepth 100000 in
theorem k_X5_hold (l : Launch) (D : va_G) (cI cZ cC cS : ClassId) (sz : Nat) (a0 a1 a2 : Nat) (w0_2 : Value) (w0_3 : Value) (w0_4 : Value) (w0_5 : Value) (w0_6 : Value) (w0_7 : Value) (w0_8 : Value) (w0_9 : Value) (w0_10 : Value) (w0_11 : Value) (w0_12 : Value) (f1 : Nat → Int32) (f2 : Nat → Int32) (res : (Nat → Int32)) (hsp : s_X5_hold f1 f2 = some res) : Met l yX5_hold wsX5_hold ({ frames := 0, cells := 0, slots := 0, locals := 0 }) (va_Pc [.ref a0] (PB D cI cZ cC cS [(a0, .inr (5, [.ref a1, .ref a2, w0_2, w0_3, w0_4, w0_5, w0_6, w0_7, w0_8, w0_9, w0_10, w0_11, w0_12])), (a1, .inl (cI, 99, .inl f1)), (a2, .inl (cI, 99, .inl f2))] sz)) (va_Qv (fun (_ : Unit) => True) (fun _ t => va_P D vwCl [(a0, .inr (5, [.ref a1, .ref a2, w0_2, w0_3, w0_4, w0_5, w0_6, w0_7, w0_8, w0_9, w0_10, w0_11, w0_12])), (a1, .inl (cI, 99, .inl f1)), (a2, .inl (cI, 99, .inl res))] t.heap) (va_A [(a0, .inr (5, [.ref a1, .ref a2, w0_2, w0_3, w0_4, w0_5, w0_6, w0_7, w0_8, w0_9, w0_10, w0_11, w0_12])), (a1, .inl (cI, 99, .inl f1)), (a2, .inl (cI, 99, .inl f2))] sz)) 0 0 (va_A [(a0, .inr (5, [.ref a1, .ref a2, w0_2, w0_3, w0_4, w0_5, w0_6, w0_7, w0_8, w0_9, w0_10, w0_11, w0_12])), (a1, .inl (cI, 99, .inl f1)), (a2, .inl (cI, 99, .inl f2))] sz) := by
  refine Met.ofW (cc := cX5_hold) (maxL := 2) (ret := none) (by decide) rfl ?_
  intro p e s m args below meth c s₁ B hml hv
  obtain ⟨rfl, hsz, hP, hD0, hKU⟩ := hv
  have hx := B.exec
  have hb := B.bytes
  have hr := B.returns
  have hts := atoms_spec (ws := wsX5_hold) B.pre
  have hown : s.vm.findClass RX5 = some m.cls := findClass_of_methodNamed B.named
  have hlocks := B.notSynchronized
  have hK := hKU.1
  have hf_13 := hts (.fieldLink RX5 13 "ThinnedPotsModel" "spare" "[I") (by decide +kernel)
  have hi_X5 : ∀ w ∈ u_ws RX5 TX5 13, w ∈ wsX5_hold := by decide +kernel
  have hf_7 := hts (.fieldLink RX5 7 "ThinnedPotsModel" "s" "[I") (by decide +kernel)
  subst hsz
  have hD := hD0.self (sz := s.heap.size)
  generalize hAe : va_A [(a0, .inr (5, [.ref a1, .ref a2, w0_2, w0_3, w0_4, w0_5, w0_6, w0_7, w0_8, w0_9, w0_10, w0_11, w0_12])), (a1, .inl (cI, 99, .inl f1)), (a2, .inl (cI, 99, .inl f2))] s.heap.size = A at hD ⊢
  have hA : ∀ q : Nat, s.heap.size ≤ q → A q := fun q h => by rw [← hAe]; exact Or.inr h
  have hP : va_P D vwCl [(a0, .inr (5, [.ref a1, .ref a2, w0_2, w0_3, w0_4, w0_5, w0_6, w0_7, w0_8, w0_9, w0_10, w0_11, w0_12])), (a1, .inl (cI, 99, .inl f1)), (a2, .inl (cI, 99, .inl f2))] s.heap := hP
  generalize hHe : s.heap = H at hP ⊢
  have hS : va_S A s.heap H [] := by rw [hHe]; exact va_S.rf
  have hl := lv_entry ([.ref a0]) (n := 2) (Nat.le_of_ble_eq_true rfl)
  rw [lg_entry_eq]
  generalize (lg_sl ([.ref a0]) ++ List.replicate (2 - (lg_sl ([.ref a0])).length) Slot.unset).toArray = ls at hl ⊢
  have hl : lv_has ls 2 [(0, .ref a0)] := hl
  unfold s_X5_hold at hsp
  refine lv_iconst (v := 0) hx hb dX5_hold_0 (by decide) ?_
  refine lv_istore_n (lv' := [(1, .int 0), (0, .ref a0)]) hx hb dX5_hold_1 rfl hl (by decide) rfl (fun ls hl => ?_)
  refine ex_rule (D := D) (K := s_X5_hold_X1) (P := fun (t1 : (Nat → Int32)) => [(a0, .inr (5, [.ref a1, .ref a2, w0_2, w0_3, w0_4, w0_5, w0_6, w0_7, w0_8, w0_9, w0_10, w0_11, w0_12])), (a1, .inl (cI, 99, .inl f1)), (a2, .inl (cI, 99, .inl t1))]) (L := fun (t1 : (Nat → Int32)) => []) (nL := 2) (pcx := 26) (res := res) (A := A) (H0 := s.heap) ?_ (fun hx1 => ?_)
  · intro t1 H locs hsp hP hD hS ls hl
    obtain ⟨y3, rfl⟩ : ∃ z, z = t1 := ⟨_, rfl⟩
    unfold s_X5_hold_X1 at hsp; try dsimp only at hsp
    have hP : va_P D vwCl [(a0, .inr (5, [.ref a1, .ref a2, w0_2, w0_3, w0_4, w0_5, w0_6, w0_7, w0_8, w0_9, w0_10, w0_11, w0_12])), (a1, .inl (cI, 99, .inl f1)), (a2, .inl (cI, 99, .inl y3))] H := hP
    have hD : va_D A [(a0, .inr (5, [.ref a1, .ref a2, w0_2, w0_3, w0_4, w0_5, w0_6, w0_7, w0_8, w0_9, w0_10, w0_11, w0_12])), (a1, .inl (cI, 99, .inl f1)), (a2, .inl (cI, 99, .inl y3))] := hD
    have hl : lv_has ls 2 [] := hl
    have hres := Option.some.inj hsp
    subst hres
    exact W.vret hx hb hr (fun t ht hW => ⟨⟨(), rfl, trivial, P_at ht hP⟩, hS.F ht⟩) hS.2.2 dX5_hold_26
  have hl := lv_sub hl (l' := [(0, .ref a0), (1, .int 0)]) [1, 0] rfl
  refine lp_rule (D := D) (F := s_X5_hold_L1 f1 (s_X5_hold_X1)) (P := fun (tv : Int32 × (Nat → Int32)) => [(a0, .inr (5, [.ref a1, .ref a2, w0_2, w0_3, w0_4, w0_5, w0_6, w0_7, w0_8, w0_9, w0_10, w0_11, w0_12])), (a1, .inl (cI, 99, .inl f1)), (a2, .inl (cI, 99, .inl tv.2))]) (L := fun (tv : Int32 × (Nat → Int32)) => [(0, .ref a0), (1, .int tv.1)]) (nL := 2) (res := res) (A := A) (H0 := s.heap) (fun _ => rfl) ?_ 1000 (0, f2) _ _ hsp hP hD hS _ hl
  · intro n1 ih1 tv H locs hsp hP hD hS ls hl
    obtain ⟨x1, y2⟩ := tv
    have hsp : s_X5_hold_B1  f1 (s_X5_hold_X1) (s_X5_hold_L1 f1 (s_X5_hold_X1) n1) x1 y2 = some res := hsp
    unfold s_X5_hold_B1 at hsp
    have hP : va_P D vwCl [(a0, .inr (5, [.ref a1, .ref a2, w0_2, w0_3, w0_4, w0_5, w0_6, w0_7, w0_8, w0_9, w0_10, w0_11, w0_12])), (a1, .inl (cI, 99, .inl f1)), (a2, .inl (cI, 99, .inl y2))] H := hP
    have hD : va_D A [(a0, .inr (5, [.ref a1, .ref a2, w0_2, w0_3, w0_4, w0_5, w0_6, w0_7, w0_8, w0_9, w0_10, w0_11, w0_12])), (a1, .inl (cI, 99, .inl f1)), (a2, .inl (cI, 99, .inl y2))] := hD
    have hl : lv_has ls 2 [(0, .ref a0), (1, .int x1)] := hl
    refine lv_iload_n hx hb dX5_hold_2 rfl (lv_at hl 1 rfl) ?_
    refine lv_bipush (v := 99) hx hb dX5_hold_3 (by decide) ?_
    refine lv_icmp_ge (tgt := 26) hx hb dX5_hold_5 (by decide) (fun c4 => ?_) (fun c4 => ?_)
    · have hsp := itT hsp c4
      exact hx1 y2 _ _ hsp hP hD hS _ (lv_sub hl [] rfl)
    have hsp := itF hsp c4
    refine lv_aload_n hx hb dX5_hold_8 rfl (lv_at hl 0 rfl) ?_
    refine va_get (D := D) (ci := 5) (v := .ref a2) (C := RX5) (T := TX5) (N := 13) hx hb hts hi_X5 hown hK hP 0 rfl rfl 1 (by decide) hf_13 (fun _ h9 => h9) rfl dX5_hold_9 ?_
    refine lv_iload_n hx hb dX5_hold_12 rfl (lv_at hl 1 rfl) ?_
    refine lv_aload_n hx hb dX5_hold_13 rfl (lv_at hl 0 rfl) ?_
    refine va_get (D := D) (ci := 5) (v := .ref a1) (C := RX5) (T := TX5) (N := 13) hx hb hts hi_X5 hown hK hP 0 rfl rfl 0 (by decide) hf_7 (fun _ h9 => h9) rfl dX5_hold_14 ?_
    refine lv_iload_n hx hb dX5_hold_17 rfl (lv_at hl 1 rfl) ?_
    obtain ⟨x5, ex5, hnx5, hsp⟩ := ldE hsp
    refine r_iald hx hb hK hP 1 0 rfl rfl ex5 hnx5 dX5_hold_18 ?_
    obtain ⟨y6, ey6, hny6, hsp⟩ := stoE hsp
    refine r_iast (ws' := [(a0, .inr (5, [.ref a1, .ref a2, w0_2, w0_3, w0_4, w0_5, w0_6, w0_7, w0_8, w0_9, w0_10, w0_11, w0_12])), (a1, .inl (cI, 99, .inl f1)), (a2, .inl (cI, 99, .inl y6))]) hx hb hK hP hD hS 2 0 rfl rfl ey6 hny6 rfl dX5_hold_19 (fun H locs hP hD hS => ?_)
    obtain ⟨x7, ex7, hsp⟩ := nmE hsp
    refine lv_iinc (k := 1) (v := x7) (lv' := [(1, .int x7), (0, .ref a0)]) hx hb dX5_hold_20 hl rfl (by rw [ex7]; rfl) (by decide) rfl (fun ls hl => ?_)
    refine lv_goto (tgt := 2) hx hb dX5_hold_23 (by decide) ?_
    exact ih1 (x7, y6) _ _ hsp hP hD hS _ (lv_sub hl [1, 0] rfl)

theorem nd_X5_mostLeft : yX5_mostLeft.cls = RX5 ∧ yX5_mostLeft.cls ≠ "java/lang/invoke/MethodHandle" ∧ yX5_mostLeft.cls ≠ "java/lang/invoke/VarHandle" ∧ (parseMethodDescriptor yX5_mostLeft.desc).map (fun d => d.parameters.length) = some 3 := by decide +kernel
set_option maxHeartbeats 8000000 in
set_option maxRecDepth 100000 in
theorem k_X5_mostLeft (l : Launch) (D : va_G) (cI cZ cC cS : ClassId) (sz : Nat) (a0 a1 : Nat) (w0_1 : Value) (w0_2 : Value) (w0_3 : Value) (w0_4 : Value) (w0_5 : Value) (w0_6 : Value) (w0_7 : Value) (w0_8 : Value) (w0_9 : Value) (w0_10 : Value) (w0_11 : Value) (w0_12 : Value) (f1 : Nat → Int32) (u1 : Int32) (u2 : Int32) (u3 : Int32) (res : Int32) (hsp : s_X5_mostLeft f1 u1 u2 u3 = some res) : Met l yX5_mostLeft wsX5_mostLeft ({ frames := 1, cells := 0, slots := 0, locals := 21 }) (va_Pc [.ref a0, .int u1, .int u2, .int u3] (PB D cI cZ cC cS [(a0, .inr (5, [.ref a1, w0_1, w0_2, w0_3, w0_4, w0_5, w0_6, w0_7, w0_8, w0_9, w0_10, w0_11, w0_12])), (a1, .inl (cI, 99, .inl f1))] sz)) (va_Qi (fun r (_ : Unit) => r = res) (fun _ t => va_P D vwCl [(a0, .inr (5, [.ref a1, w0_1, w0_2, w0_3, w0_4, w0_5, w0_6, w0_7, w0_8, w0_9, w0_10, w0_11, w0_12])), (a1, .inl (cI, 99, .inl f1))] t.heap) (va_A [(a0, .inr (5, [.ref a1, w0_1, w0_2, w0_3, w0_4, w0_5, w0_6, w0_7, w0_8, w0_9, w0_10, w0_11, w0_12])), (a1, .inl (cI, 99, .inl f1))] sz)) 0 0 (va_A [(a0, .inr (5, [.ref a1, w0_1, w0_2, w0_3, w0_4, w0_5, w0_6, w0_7, w0_8, w0_9, w0_10, w0_11, w0_12])), (a1, .inl (cI, 99, .inl f1))] sz) := by
  refine Met.ofW (cc := cX5_mostLeft) (maxL := 10) (ret := (some .int)) (by decide) rfl ?_
  intro p e s m args below meth c s₁ B hml hv
  obtain ⟨rfl, hsz, hP, hD0, hKU⟩ := hv
  have hx := B.exec
  have hb := B.bytes
  have hr := B.returns
  have hts := atoms_spec (ws := wsX5_mostLeft) B.pre
  have hown : s.vm.findClass RX5 = some m.cls := findClass_of_methodNamed B.named
  have hlocks := B.notSynchronized
  have hK := hKU.1
  have hf_7 := hts (.fieldLink RX5 7 "ThinnedPotsModel" "s" "[I") (by decide +kernel)
  have hi_X5 : ∀ w ∈ u_ws RX5 TX5 13, w ∈ wsX5_mostLeft := by decide +kernel
  subst hsz
  have hD := hD0.self (sz := s.heap.size)
  generalize hAe : va_A [(a0, .inr (5, [.ref a1, w0_1, w0_2, w0_3, w0_4, w0_5, w0_6, w0_7, w0_8, w0_9, w0_10, w0_11, w0_12])), (a1, .inl (cI, 99, .inl f1))] s.heap.size = A at hD ⊢
  have hA : ∀ q : Nat, s.heap.size ≤ q → A q := fun q h => by rw [← hAe]; exact Or.inr h
  have hP : va_P D vwCl [(a0, .inr (5, [.ref a1, w0_1, w0_2, w0_3, w0_4, w0_5, w0_6, w0_7, w0_8, w0_9, w0_10, w0_11, w0_12])), (a1, .inl (cI, 99, .inl f1))] s.heap := hP
  generalize hHe : s.heap = H at hP ⊢
  have hS : va_S A s.heap H [] := by rw [hHe]; exact va_S.rf
  have hl := lv_entry ([.ref a0, .int u1, .int u2, .int u3]) (n := 10) (Nat.le_of_ble_eq_true rfl)
  rw [lg_entry_eq]
  generalize (lg_sl ([.ref a0, .int u1, .int u2, .int u3]) ++ List.replicate (10 - (lg_sl ([.ref a0, .int u1, .int u2, .int u3])).length) Slot.unset).toArray = ls at hl ⊢
  have hl : lv_has ls 10 [(0, .ref a0), (1, .int u1), (2, .int u2), (3, .int u3)] := hl
  unfold s_X5_mostLeft at hsp
  refine lv_aload_n hx hb dX5_mostLeft_0 rfl (lv_at hl 0 rfl) ?_
  refine lv_iload_n hx hb dX5_mostLeft_1 rfl (lv_at hl 1 rfl) ?_
  obtain ⟨r1, hcr1, hsp⟩ := clE hsp
  refine call_i (w1 := [(a0, .inr (5, [.ref a1, w0_1, w0_2, w0_3, w0_4, w0_5, w0_6, w0_7, w0_8, w0_9, w0_10, w0_11, w0_12])), (a1, .inl (cI, 99, .inl f1))]) (ws' := [(a0, .inr (5, [.ref a1, w0_1, w0_2, w0_3, w0_4, w0_5, w0_6, w0_7, w0_8, w0_9, w0_10, w0_11, w0_12])), (a1, .inl (cI, 99, .inl f1))]) (va_runV (As := [.int u1]) (rest := []) ⟨hx, hb, hml, hown, hts⟩ (k_X5_drops l D cI cZ cC cS H.size a0 a1 (w0_1) (w0_2) (w0_3) (w0_4) (w0_5) (w0_6) (w0_7) (w0_8) (w0_9) (w0_10) (w0_11) (w0_12) f1 u1 r1 hcr1) (cwV 1 hts gX5_mostLeft_X5_drops rfl rfl rfl nd_X5_drops ⟨Nat.le_of_ble_eq_true rfl, Nat.le_of_ble_eq_true rfl⟩) (PB.preV (ci := 5) (q0 := 0) hKU hP hD [0, 1] rfl rfl rfl rfl) rfl rfl hl.1 rfl (lv_room (Nat.le_of_ble_eq_true rfl)) dX5_mostLeft_2 ⟨Nat.zero_le _, Nat.zero_le _⟩) hS hP hD hA [0, 1] rfl rfl (by first | (simp only [wset, List.set_cons_zero, List.set_cons_succ]; done) | rfl) rfl (fun H locs hP hD hS => ?_)
  refine lv_istore (lv' := [(4, .int r1), (0, .ref a0), (1, .int u1), (2, .int u2), (3, .int u3)]) hx hb dX5_mostLeft_5 hl (by decide) rfl (fun ls hl => ?_)
  refine lv_bipush (v := (-6)) hx hb dX5_mostLeft_7 (by decide) ?_
  refine lv_istore (lv' := [(5, .int (-6)), (4, .int r1), (0, .ref a0), (1, .int u1), (2, .int u2), (3, .int u3)]) hx hb dX5_mostLeft_9 hl (by decide) rfl (fun ls hl => ?_)
  refine lv_iconst (v := (-1)) hx hb dX5_mostLeft_11 (by decide) ?_
  refine lv_istore (lv' := [(6, .int (-1)), (5, .int (-6)), (4, .int r1), (0, .ref a0), (1, .int u1), (2, .int u2), (3, .int u3)]) hx hb dX5_mostLeft_12 hl (by decide) rfl (fun ls hl => ?_)
  refine lv_iconst (v := 0) hx hb dX5_mostLeft_14 (by decide) ?_
  refine lv_istore (lv' := [(7, .int 0), (6, .int (-1)), (5, .int (-6)), (4, .int r1), (0, .ref a0), (1, .int u1), (2, .int u2), (3, .int u3)]) hx hb dX5_mostLeft_15 hl (by decide) rfl (fun ls hl => ?_)
  refine ex_rule (D := D) (K := s_X5_mostLeft_X1) (P := fun (t1 : Int32) => [(a0, .inr (5, [.ref a1, w0_1, w0_2, w0_3, w0_4, w0_5, w0_6, w0_7, w0_8, w0_9, w0_10, w0_11, w0_12])), (a1, .inl (cI, 99, .inl f1))]) (L := fun (t1 : Int32) => [(5, .int t1)]) (nL := 10) (pcx := 96) (res := res) (A := A) (H0 := s.heap) ?_ (fun hx1 => ?_)
  · intro t1 H locs hsp hP hD hS ls hl
    obtain ⟨x5, rfl⟩ : ∃ z, z = t1 := ⟨_, rfl⟩
    unfold s_X5_mostLeft_X1 at hsp; try dsimp only at hsp
    have hP : va_P D vwCl [(a0, .inr (5, [.ref a1, w0_1, w0_2, w0_3, w0_4, w0_5, w0_6, w0_7, w0_8, w0_9, w0_10, w0_11, w0_12])), (a1, .inl (cI, 99, .inl f1))] H := hP
    have hD : va_D A [(a0, .inr (5, [.ref a1, w0_1, w0_2, w0_3, w0_4, w0_5, w0_6, w0_7, w0_8, w0_9, w0_10, w0_11, w0_12])), (a1, .inl (cI, 99, .inl f1))] := hD
    have hl : lv_has ls 10 [(5, .int x5)] := hl
    refine lv_iload hx hb dX5_mostLeft_96 (lv_at hl 0 rfl) ?_
    have hres := Option.some.inj hsp
    subst hres
    exact W.iret (v := x5) hx hb hr (fun t ht hW => ⟨⟨x5, (), rfl, rfl, P_at ht hP⟩, hS.F ht⟩) hS.2.2 dX5_mostLeft_98
  have hl := lv_sub hl (l' := [(0, .ref a0), (1, .int u1), (2, .int u2), (3, .int u3), (4, .int r1), (5, .int (-6)), (6, .int (-1)), (7, .int 0)]) [4, 5, 6, 7, 3, 2, 1, 0] rfl
  refine lp_rule (D := D) (F := s_X5_mostLeft_L1 f1 u1 u2 r1 u3 (s_X5_mostLeft_X1)) (P := fun (tv : Int32 × Int32 × Int32) => [(a0, .inr (5, [.ref a1, w0_1, w0_2, w0_3, w0_4, w0_5, w0_6, w0_7, w0_8, w0_9, w0_10, w0_11, w0_12])), (a1, .inl (cI, 99, .inl f1))]) (L := fun (tv : Int32 × Int32 × Int32) => [(0, .ref a0), (1, .int u1), (2, .int u2), (3, .int u3), (4, .int r1), (5, .int tv.1), (6, .int tv.2.1), (7, .int tv.2.2)]) (nL := 10) (res := res) (A := A) (H0 := s.heap) (fun _ => rfl) ?_ 1000 ((-6), (-1), 0) _ _ hsp hP hD hS _ hl
  · intro n1 ih1 tv H locs hsp hP hD hS ls hl
    obtain ⟨x2, x3, x4⟩ := tv
    have hsp : s_X5_mostLeft_B1  f1 u1 u2 r1 u3 (s_X5_mostLeft_X1) (s_X5_mostLeft_L1 f1 u1 u2 r1 u3 (s_X5_mostLeft_X1) n1) x2 x3 x4 = some res := hsp
    unfold s_X5_mostLeft_B1 at hsp
    have hP : va_P D vwCl [(a0, .inr (5, [.ref a1, w0_1, w0_2, w0_3, w0_4, w0_5, w0_6, w0_7, w0_8, w0_9, w0_10, w0_11, w0_12])), (a1, .inl (cI, 99, .inl f1))] H := hP
    have hD : va_D A [(a0, .inr (5, [.ref a1, w0_1, w0_2, w0_3, w0_4, w0_5, w0_6, w0_7, w0_8, w0_9, w0_10, w0_11, w0_12])), (a1, .inl (cI, 99, .inl f1))] := hD
    have hl : lv_has ls 10 [(0, .ref a0), (1, .int u1), (2, .int u2), (3, .int u3), (4, .int r1), (5, .int x2), (6, .int x3), (7, .int x4)] := hl
    refine lv_iload hx hb dX5_mostLeft_17 (lv_at hl 7 rfl) ?_
    refine lv_iconst (v := 4) hx hb dX5_mostLeft_19 (by decide) ?_
    refine lv_icmp_ge (tgt := 96) hx hb dX5_mostLeft_20 (by decide) (fun c6 => ?_) (fun c6 => ?_)
    · have hsp := itT hsp c6
      exact hx1 x2 _ _ hsp hP hD hS _ (lv_sub hl [5] rfl)
    have hsp := itF hsp c6
    refine lv_aload_n hx hb dX5_mostLeft_23 rfl (lv_at hl 0 rfl) ?_
    refine va_get (D := D) (ci := 5) (v := .ref a1) (C := RX5) (T := TX5) (N := 13) hx hb hts hi_X5 hown hK hP 0 rfl rfl 0 (by decide) hf_7 (fun _ h9 => h9) rfl dX5_mostLeft_24 ?_
    refine lv_iload_n hx hb dX5_mostLeft_27 rfl (lv_at hl 1 rfl) ?_
    refine lv_iload hx hb dX5_mostLeft_28 (lv_at hl 7 rfl) ?_
    refine lv_iadd hx hb dX5_mostLeft_30 ?_
    obtain ⟨x7, ex7, hnx7, hsp⟩ := ldE hsp
    refine r_iald hx hb hK hP 1 0 rfl rfl ex7 hnx7 dX5_mostLeft_31 ?_
    refine lv_iload_n hx hb dX5_mostLeft_32 rfl (lv_at hl 2 rfl) ?_
    refine lv_imul hx hb dX5_mostLeft_33 ?_
    refine lv_iload hx hb dX5_mostLeft_34 (lv_at hl 4 rfl) ?_
    obtain ⟨x8, ex8, hnx8, hsp⟩ := rmdE hsp
    refine lv_irem hx hb dX5_mostLeft_36 hnx8 ?_
    refine r_top ex8 ?_
    refine lv_istore (lv' := [(8, .int x8), (0, .ref a0), (1, .int u1), (2, .int u2), (3, .int u3), (4, .int r1), (5, .int x2), (6, .int x3), (7, .int x4)]) hx hb dX5_mostLeft_37 hl (by decide) rfl (fun ls hl => ?_)
    refine lv_iload_n hx hb dX5_mostLeft_39 rfl (lv_at hl 4 rfl) ?_
    refine lv_iload hx hb dX5_mostLeft_40 (lv_at hl 8 rfl) ?_
    refine lv_ishr hx hb dX5_mostLeft_42 ?_
    refine lv_iconst (v := 1) hx hb dX5_mostLeft_43 (by decide) ?_
    refine lv_iand hx hb dX5_mostLeft_44 ?_
    refine lv_if_ne (tgt := 59) hx hb dX5_mostLeft_45 (by decide) (fun c9 => ?_) (fun c9 => ?_)
    · have hsp := itF hsp c9
      refine lv_iconst (v := 0) hx hb dX5_mostLeft_59 (by decide) ?_
      refine lv_istore (lv' := [(9, .int 0), (8, .int x8), (0, .ref a0), (1, .int u1), (2, .int u2), (3, .int u3), (4, .int r1), (5, .int x2), (6, .int x3), (7, .int x4)]) hx hb dX5_mostLeft_60 hl (by decide) rfl (fun ls hl => ?_)
      refine lv_iload hx hb dX5_mostLeft_62 (lv_at hl 0 rfl) ?_
      refine lv_if_eq (tgt := 72) hx hb dX5_mostLeft_64 (by decide) (fun _ => ?_) (fun hc => absurd hc (by decide))
      refine lv_iload hx hb dX5_mostLeft_72 (lv_at hl 7 rfl) ?_
      refine lv_istore (lv' := [(5, .int x2), (9, .int 0), (8, .int x8), (0, .ref a0), (1, .int u1), (2, .int u2), (3, .int u3), (4, .int r1), (6, .int x3), (7, .int x4)]) hx hb dX5_mostLeft_74 hl (by decide) rfl (fun ls hl => ?_)
      refine lv_iload hx hb dX5_mostLeft_76 (lv_at hl 1 rfl) ?_
      refine lv_if_eq (tgt := 86) hx hb dX5_mostLeft_78 (by decide) (fun _ => ?_) (fun hc => absurd hc (by decide))
      refine lv_iload hx hb dX5_mostLeft_86 (lv_at hl 8 rfl) ?_
      refine lv_istore (lv' := [(6, .int x3), (5, .int x2), (9, .int 0), (8, .int x8), (0, .ref a0), (1, .int u1), (2, .int u2), (3, .int u3), (4, .int r1), (7, .int x4)]) hx hb dX5_mostLeft_88 hl (by decide) rfl (fun ls hl => ?_)
      obtain ⟨x10, ex10, hsp⟩ := nmE hsp
      refine lv_iinc (k := 9) (v := x10) (lv' := [(7, .int x10), (6, .int x3), (5, .int x2), (9, .int 0), (8, .int x8), (0, .ref a0), (1, .int u1), (2, .int u2), (3, .int u3), (4, .int r1)]) hx hb dX5_mostLeft_90 hl rfl (by rw [ex10]; rfl) (by decide) rfl (fun ls hl => ?_)
      refine lv_goto (tgt := 17) hx hb dX5_mostLeft_93 (by decide) ?_
      exact ih1 (x2, x3, x10) _ _ hsp hP hD hS _ (lv_sub hl [5, 6, 7, 8, 9, 2, 1, 0] rfl)
    have hsp := itT hsp c9
    refine lv_iload hx hb dX5_mostLeft_48 (lv_at hl 0 rfl) ?_
    refine lv_iload hx hb dX5_mostLeft_50 (lv_at hl 7 rfl) ?_
    refine lv_icmp_le (tgt := 59) hx hb dX5_mostLeft_52 (by decide) (fun c11 => ?_) (fun c11 => ?_)
    · have hsp := itT hsp c11
      refine lv_iconst (v := 0) hx hb dX5_mostLeft_59 (by decide) ?_
      refine lv_istore (lv' := [(9, .int 0), (8, .int x8), (0, .ref a0), (1, .int u1), (2, .int u2), (3, .int u3), (4, .int r1), (5, .int x2), (6, .int x3), (7, .int x4)]) hx hb dX5_mostLeft_60 hl (by decide) rfl (fun ls hl => ?_)
      refine lv_iload hx hb dX5_mostLeft_62 (lv_at hl 0 rfl) ?_
      refine lv_if_eq (tgt := 72) hx hb dX5_mostLeft_64 (by decide) (fun _ => ?_) (fun hc => absurd hc (by decide))
      refine lv_iload hx hb dX5_mostLeft_72 (lv_at hl 7 rfl) ?_
      refine lv_istore (lv' := [(5, .int x2), (9, .int 0), (8, .int x8), (0, .ref a0), (1, .int u1), (2, .int u2), (3, .int u3), (4, .int r1), (6, .int x3), (7, .int x4)]) hx hb dX5_mostLeft_74 hl (by decide) rfl (fun ls hl => ?_)
      refine lv_iload hx hb dX5_mostLeft_76 (lv_at hl 1 rfl) ?_
      refine lv_if_eq (tgt := 86) hx hb dX5_mostLeft_78 (by decide) (fun _ => ?_) (fun hc => absurd hc (by decide))
      refine lv_iload hx hb dX5_mostLeft_86 (lv_at hl 8 rfl) ?_
      refine lv_istore (lv' := [(6, .int x3), (5, .int x2), (9, .int 0), (8, .int x8), (0, .ref a0), (1, .int u1), (2, .int u2), (3, .int u3), (4, .int r1), (7, .int x4)]) hx hb dX5_mostLeft_88 hl (by decide) rfl (fun ls hl => ?_)
      obtain ⟨x12, ex12, hsp⟩ := nmE hsp
      refine lv_iinc (k := 9) (v := x12) (lv' := [(7, .int x12), (6, .int x3), (5, .int x2), (9, .int 0), (8, .int x8), (0, .ref a0), (1, .int u1), (2, .int u2), (3, .int u3), (4, .int r1)]) hx hb dX5_mostLeft_90 hl rfl (by rw [ex12]; rfl) (by decide) rfl (fun ls hl => ?_)
      refine lv_goto (tgt := 17) hx hb dX5_mostLeft_93 (by decide) ?_
      exact ih1 (x2, x3, x12) _ _ hsp hP hD hS _ (lv_sub hl [5, 6, 7, 8, 9, 2, 1, 0] rfl)
    have hsp := itF hsp c11
    refine lv_iconst (v := 1) hx hb dX5_mostLeft_55 (by decide) ?_
    refine lv_goto (tgt := 60) hx hb dX5_mostLeft_56 (by decide) ?_
    refine lv_istore (lv' := [(9, .int 1), (8, .int x8), (0, .ref a0), (1, .int u1), (2, .int u2), (3, .int u3), (4, .int r1), (5, .int x2), (6, .int x3), (7, .int x4)]) hx hb dX5_mostLeft_60 hl (by decide) rfl (fun ls hl => ?_)
    refine lv_iload hx hb dX5_mostLeft_62 (lv_at hl 0 rfl) ?_
    refine lv_if_eq (tgt := 72) hx hb dX5_mostLeft_64 (by decide) (fun hc => absurd hc (by decide)) (fun _ => ?_)
    refine lv_iload hx hb dX5_mostLeft_67 (lv_at hl 9 rfl) ?_
    refine lv_goto (tgt := 74) hx hb dX5_mostLeft_69 (by decide) ?_
    refine lv_istore (lv' := [(5, .int x4), (9, .int 1), (8, .int x8), (0, .ref a0), (1, .int u1), (2, .int u2), (3, .int u3), (4, .int r1), (6, .int x3), (7, .int x4)]) hx hb dX5_mostLeft_74 hl (by decide) rfl (fun ls hl => ?_)
    refine lv_iload hx hb dX5_mostLeft_76 (lv_at hl 1 rfl) ?_
    refine lv_if_eq (tgt := 86) hx hb dX5_mostLeft_78 (by decide) (fun hc => absurd hc (by decide)) (fun _ => ?_)
    refine lv_iload hx hb dX5_mostLeft_81 (lv_at hl 2 rfl) ?_
    refine lv_goto (tgt := 88) hx hb dX5_mostLeft_83 (by decide) ?_
    refine lv_istore (lv' := [(6, .int x8), (5, .int x4), (9, .int 1), (8, .int x8), (0, .ref a0), (1, .int u1), (2, .int u2), (3, .int u3), (4, .int r1), (7, .int x4)]) hx hb dX5_mostLeft_88 hl (by decide) rfl (fun ls hl => ?_)
    obtain ⟨x13, ex13, hsp⟩ := nmE hsp
    refine lv_iinc (k := 9) (v := x13) (lv' := [(7, .int x13), (6, .int x8), (5, .int x4), (9, .int 1), (8, .int x8), (0, .ref a0), (1, .int u1), (2, .int u2), (3, .int u3), (4, .int r1)]) hx hb dX5_mostLeft_90 hl rfl (by rw [ex13]; rfl) (by decide) rfl (fun ls hl => ?_)
    refine lv_goto (tgt := 17) hx hb dX5_mostLeft_93 (by decide) ?_
    exact ih1 (x4, x8, x13) _ _ hsp hP hD hS _ (lv_sub hl [5, 6, 7, 8, 9, 2, 1, 0] rfl)
