theorem nd_X2_account : yX2_account.cls = RX2 ∧ yX2_account.cls ≠ "java/lang/invoke/MethodHandle" ∧ yX2_account.cls ≠ "java/lang/invoke/VarHandle" ∧ (parseMethodDescriptor yX2_account.desc).map (fun d => d.parameters.length) = some 1 := by decide +kernel
set_option maxHeartbeats 8000000 in
set_option maxRecDepth 100000 in
theorem k_X2_account (l : Launch) (D : va_G) (cI cZ cC cS : ClassId) (sz : Nat) (a0 a1 a2 a4 a5 a6 : Nat) (w0_2 : Value) (g0_6 : Int32) (g0_7 : Int32) (g0_8 : Int32) (g0_9 : Int32) (w0_10 : Value) (w0_11 : Value) (f1 : Nat → Int32) (f2 : Nat → Int32) (f4 : Nat → Int32) (f5 : Nat → Int32) (f6 : Nat → Int32) (u1 : Int32) (res : Int32) (hsp : s_X2_account g0_6 g0_7 g0_8 g0_9 f1 f2 f4 f5 f6 u1 = some res) : Met l yX2_account wsX2_account ({ frames := 5, cells := 0, slots := 0, locals := 114 }) (va_Pc [.ref a0, .int u1] (PB D cI cZ cC cS [(a0, .inr (2, [.ref a1, .ref a2, w0_2, .ref a4, .ref a5, .ref a6, .int g0_6, .int g0_7, .int g0_8, .int g0_9, w0_10, w0_11])), (a1, .inl (cI, 2, .inl f1)), (a2, .inl (cI, 36, .inl f2)), (a4, .inl (cI, 18, .inl f4)), (a5, .inl (cI, 18, .inl f5)), (a6, .inl (cI, 6, .inl f6))] sz)) (va_Qi (fun r (_ : Unit) => r = res) (fun _ t => va_P D vwCl [(a0, .inr (2, [.ref a1, .ref a2, w0_2, .ref a4, .ref a5, .ref a6, .int g0_6, .int g0_7, .int g0_8, .int g0_9, w0_10, w0_11])), (a1, .inl (cI, 2, .inl f1)), (a2, .inl (cI, 36, .inl f2)), (a4, .inl (cI, 18, .inl f4)), (a5, .inl (cI, 18, .inl f5)), (a6, .inl (cI, 6, .inl f6))] t.heap) (va_A [(a0, .inr (2, [.ref a1, .ref a2, w0_2, .ref a4, .ref a5, .ref a6, .int g0_6, .int g0_7, .int g0_8, .int g0_9, w0_10, w0_11])), (a1, .inl (cI, 2, .inl f1)), (a2, .inl (cI, 36, .inl f2)), (a4, .inl (cI, 18, .inl f4)), (a5, .inl (cI, 18, .inl f5)), (a6, .inl (cI, 6, .inl f6))] sz)) 0 0 (va_A [(a0, .inr (2, [.ref a1, .ref a2, w0_2, .ref a4, .ref a5, .ref a6, .int g0_6, .int g0_7, .int g0_8, .int g0_9, w0_10, w0_11])), (a1, .inl (cI, 2, .inl f1)), (a2, .inl (cI, 36, .inl f2)), (a4, .inl (cI, 18, .inl f4)), (a5, .inl (cI, 18, .inl f5)), (a6, .inl (cI, 6, .inl f6))] sz) := by
  refine Met.ofW (cc := cX2_account) (maxL := 2) (ret := (some .int)) (by decide) rfl ?_
  intro p e s m args below meth c s₁ B hml hv
  obtain ⟨rfl, hsz, hP, hD0, hKU⟩ := hv
  have hx := B.exec
  have hb := B.bytes
  have hr := B.returns
  have hts := atoms_spec (ws := wsX2_account) B.pre
  have hown : s.vm.findClass RX2 = some m.cls := findClass_of_methodNamed B.named
  have hlocks := B.notSynchronized
  have hK := hKU.1
  have hf_9 := hts (.fieldLink RX2 9 "ThinnedPots$Studio" "settings" "[I") (by decide +kernel)
  have hi_X2 : ∀ w ∈ u_ws RX2 TX2 12, w ∈ wsX2_account := by decide +kernel
  have hst_X4_at := hts (.static yX4_at) (by decide +kernel)
  have hin_X4 := hts (.initialized RX4) (by decide +kernel)
  have hf_34 := hts (.fieldLink RX2 34 "ThinnedPots$Studio" "dropsPutIn" "I") (by decide +kernel)
  have hf_38 := hts (.fieldLink RX2 38 "ThinnedPots$Studio" "dropsOnPanels" "I") (by decide +kernel)
  have hf_41 := hts (.fieldLink RX2 41 "ThinnedPots$Studio" "dropsRinsed" "I") (by decide +kernel)
  have hf_44 := hts (.fieldLink RX2 44 "ThinnedPots$Studio" "rinsesWithDrops" "I") (by decide +kernel)
  subst hsz
  have hD := hD0.self (sz := s.heap.size)
  generalize hAe : va_A [(a0, .inr (2, [.ref a1, .ref a2, w0_2, .ref a4, .ref a5, .ref a6, .int g0_6, .int g0_7, .int g0_8, .int g0_9, w0_10, w0_11])), (a1, .inl (cI, 2, .inl f1)), (a2, .inl (cI, 36, .inl f2)), (a4, .inl (cI, 18, .inl f4)), (a5, .inl (cI, 18, .inl f5)), (a6, .inl (cI, 6, .inl f6))] s.heap.size = A at hD ⊢
  have hA : ∀ q : Nat, s.heap.size ≤ q → A q := fun q h => by rw [← hAe]; exact Or.inr h
  have hP : va_P D vwCl [(a0, .inr (2, [.ref a1, .ref a2, w0_2, .ref a4, .ref a5, .ref a6, .int g0_6, .int g0_7, .int g0_8, .int g0_9, w0_10, w0_11])), (a1, .inl (cI, 2, .inl f1)), (a2, .inl (cI, 36, .inl f2)), (a4, .inl (cI, 18, .inl f4)), (a5, .inl (cI, 18, .inl f5)), (a6, .inl (cI, 6, .inl f6))] s.heap := hP
  generalize hHe : s.heap = H at hP ⊢
  have hS : va_S A s.heap H [] := by rw [hHe]; exact va_S.rf
  have hl := lv_entry ([.ref a0, .int u1]) (n := 2) (Nat.le_of_ble_eq_true rfl)
  rw [lg_entry_eq]
  generalize (lg_sl ([.ref a0, .int u1]) ++ List.replicate (2 - (lg_sl ([.ref a0, .int u1])).length) Slot.unset).toArray = ls at hl ⊢
  have hl : lv_has ls 2 [(0, .ref a0), (1, .int u1)] := hl
  unfold s_X2_account at hsp
  refine lv_iload_n hx hb dX2_account_0 rfl (lv_at hl 1 rfl) ?_
  by_cases c1 : u1 = 0
  · have hsp := itT hsp c1
    refine lv_tableIn (off := 55) (tgt := 56) hx hb dX2_account_1 (by rw [c1]; decide) (by rw [c1]; decide) (by rw [c1]; decide) (by decide) ?_
    refine lv_aload_n hx hb dX2_account_56 rfl (lv_at hl 0 rfl) ?_
    refine va_get (D := D) (ci := 2) (v := .ref a1) (C := RX2) (T := TX2) (N := 12) hx hb hts hi_X2 hown hK hP 0 rfl rfl 0 (by decide) hf_9 (fun _ h9 => h9) rfl dX2_account_57 ?_
    refine lv_iconst (v := 0) hx hb dX2_account_60 (by decide) ?_
    obtain ⟨r2, hcr2, hsp⟩ := clE hsp
    refine call_i (w1 := [(a1, .inl (cI, 2, .inl f1))]) (ws' := [(a0, .inr (2, [.ref a1, .ref a2, w0_2, .ref a4, .ref a5, .ref a6, .int g0_6, .int g0_7, .int g0_8, .int g0_9, w0_10, w0_11])), (a1, .inl (cI, 2, .inl f1)), (a2, .inl (cI, 36, .inl f2)), (a4, .inl (cI, 18, .inl f4)), (a5, .inl (cI, 18, .inl f5)), (a6, .inl (cI, 6, .inl f6))]) (va_runSN (As := [.ref a1, .int 0]) (rest := []) ⟨hx, hb, hml, hown, hts⟩ (k_X4_at l D cI cZ cC cS H.size a1 2 f1 0 r2 hcr2) ⟨va_cnB 2 hts gX2_account_X4_at_n61 rfl rfl rfl (mn_Studio_61 hKU.2.2) hin_X4 nd_X4_at.2 ⟨Nat.le_of_ble_eq_true rfl, Nat.le_of_ble_eq_true rfl⟩, hst_X4_at, trivial⟩ (PB.preS hKU hP hD [1] rfl rfl) rfl rfl hl.1 rfl (lv_room (Nat.le_of_ble_eq_true rfl)) dX2_account_61 ⟨Nat.zero_le _, Nat.zero_le _⟩) hS hP hD hA [1] rfl rfl (by first | (simp only [wset, List.set_cons_zero, List.set_cons_succ]; done) | rfl) rfl (fun H locs hP hD hS => ?_)
    have hres := Option.some.inj hsp
    subst hres
    exact W.iret (v := r2) hx hb hr (fun t ht hW => ⟨⟨r2, (), rfl, rfl, P_at ht hP⟩, hS.F ht⟩) hS.2.2 dX2_account_64
  have hsp := itF hsp c1
  by_cases c3 : u1 = 1
  · have hsp := itT hsp c3
    refine lv_tableIn (off := 64) (tgt := 65) hx hb dX2_account_1 (by rw [c3]; decide) (by rw [c3]; decide) (by rw [c3]; decide) (by decide) ?_
    refine lv_aload_n hx hb dX2_account_65 rfl (lv_at hl 0 rfl) ?_
    refine va_get (D := D) (ci := 2) (v := .ref a1) (C := RX2) (T := TX2) (N := 12) hx hb hts hi_X2 hown hK hP 0 rfl rfl 0 (by decide) hf_9 (fun _ h9 => h9) rfl dX2_account_66 ?_
    refine lv_iconst (v := 1) hx hb dX2_account_69 (by decide) ?_
    obtain ⟨r4, hcr4, hsp⟩ := clE hsp
    refine call_i (w1 := [(a1, .inl (cI, 2, .inl f1))]) (ws' := [(a0, .inr (2, [.ref a1, .ref a2, w0_2, .ref a4, .ref a5, .ref a6, .int g0_6, .int g0_7, .int g0_8, .int g0_9, w0_10, w0_11])), (a1, .inl (cI, 2, .inl f1)), (a2, .inl (cI, 36, .inl f2)), (a4, .inl (cI, 18, .inl f4)), (a5, .inl (cI, 18, .inl f5)), (a6, .inl (cI, 6, .inl f6))]) (va_runSN (As := [.ref a1, .int 1]) (rest := []) ⟨hx, hb, hml, hown, hts⟩ (k_X4_at l D cI cZ cC cS H.size a1 2 f1 1 r4 hcr4) ⟨va_cnB 2 hts gX2_account_X4_at_n61 rfl rfl rfl (mn_Studio_61 hKU.2.2) hin_X4 nd_X4_at.2 ⟨Nat.le_of_ble_eq_true rfl, Nat.le_of_ble_eq_true rfl⟩, hst_X4_at, trivial⟩ (PB.preS hKU hP hD [1] rfl rfl) rfl rfl hl.1 rfl (lv_room (Nat.le_of_ble_eq_true rfl)) dX2_account_70 ⟨Nat.zero_le _, Nat.zero_le _⟩) hS hP hD hA [1] rfl rfl (by first | (simp only [wset, List.set_cons_zero, List.set_cons_succ]; done) | rfl) rfl (fun H locs hP hD hS => ?_)
    have hres := Option.some.inj hsp
    subst hres
    exact W.iret (v := r4) hx hb hr (fun t ht hW => ⟨⟨r4, (), rfl, rfl, P_at ht hP⟩, hS.F ht⟩) hS.2.2 dX2_account_73
  have hsp := itF hsp c3
  by_cases c5 : u1 = 2
  · have hsp := itT hsp c5
    refine lv_tableIn (off := 73) (tgt := 74) hx hb dX2_account_1 (by rw [c5]; decide) (by rw [c5]; decide) (by rw [c5]; decide) (by decide) ?_
    refine lv_aload_n hx hb dX2_account_74 rfl (lv_at hl 0 rfl) ?_
    refine va_get (D := D) (ci := 2) (v := .int g0_6) (C := RX2) (T := TX2) (N := 12) hx hb hts hi_X2 hown hK hP 0 rfl rfl 6 (by decide) hf_34 (fun _ h9 => h9) rfl dX2_account_75 ?_
    have hres := Option.some.inj hsp
    subst hres
    exact W.iret (v := g0_6) hx hb hr (fun t ht hW => ⟨⟨g0_6, (), rfl, rfl, P_at ht hP⟩, hS.F ht⟩) hS.2.2 dX2_account_78
  have hsp := itF hsp c5
  by_cases c6 : u1 = 3
  · have hsp := itT hsp c6
    refine lv_tableIn (off := 78) (tgt := 79) hx hb dX2_account_1 (by rw [c6]; decide) (by rw [c6]; decide) (by rw [c6]; decide) (by decide) ?_
    refine lv_aload_n hx hb dX2_account_79 rfl (lv_at hl 0 rfl) ?_
    obtain ⟨r7, hcr7, hsp⟩ := clE hsp
    refine call_i (w1 := [(a0, .inr (2, [.ref a1, .ref a2, w0_2, .ref a4, .ref a5, .ref a6, .int g0_6, .int g0_7, .int g0_8, .int g0_9, w0_10, w0_11])), (a2, .inl (cI, 36, .inl f2))]) (ws' := [(a0, .inr (2, [.ref a1, .ref a2, w0_2, .ref a4, .ref a5, .ref a6, .int g0_6, .int g0_7, .int g0_8, .int g0_9, w0_10, w0_11])), (a1, .inl (cI, 2, .inl f1)), (a2, .inl (cI, 36, .inl f2)), (a4, .inl (cI, 18, .inl f4)), (a5, .inl (cI, 18, .inl f5)), (a6, .inl (cI, 6, .inl f6))]) (va_runV (As := []) (rest := []) ⟨hx, hb, hml, hown, hts⟩ (k_X2_dropsInPots l D cI cZ cC cS H.size a0 a2 (.ref a1) (w0_2) (.ref a4) (.ref a5) (.ref a6) (.int g0_6) (.int g0_7) (.int g0_8) (.int g0_9) (w0_10) (w0_11) f2 r7 hcr7) (cwV 0 hts gX2_account_X2_dropsInPots rfl rfl rfl nd_X2_dropsInPots ⟨Nat.le_of_ble_eq_true rfl, Nat.le_of_ble_eq_true rfl⟩) (PB.preV (ci := 2) (q0 := 0) hKU hP hD [0, 2] rfl rfl rfl rfl) rfl rfl hl.1 rfl (lv_room (Nat.le_of_ble_eq_true rfl)) dX2_account_80 ⟨Nat.zero_le _, Nat.zero_le _⟩) hS hP hD hA [0, 2] rfl rfl (by first | (simp only [wset, List.set_cons_zero, List.set_cons_succ]; done) | rfl) rfl (fun H locs hP hD hS => ?_)
    have hres := Option.some.inj hsp
    subst hres
    exact W.iret (v := r7) hx hb hr (fun t ht hW => ⟨⟨r7, (), rfl, rfl, P_at ht hP⟩, hS.F ht⟩) hS.2.2 dX2_account_83
  have hsp := itF hsp c6
  by_cases c8 : u1 = 4
  · have hsp := itT hsp c8
    refine lv_tableIn (off := 83) (tgt := 84) hx hb dX2_account_1 (by rw [c8]; decide) (by rw [c8]; decide) (by rw [c8]; decide) (by decide) ?_
    refine lv_aload_n hx hb dX2_account_84 rfl (lv_at hl 0 rfl) ?_
    refine va_get (D := D) (ci := 2) (v := .int g0_7) (C := RX2) (T := TX2) (N := 12) hx hb hts hi_X2 hown hK hP 0 rfl rfl 7 (by decide) hf_38 (fun _ h9 => h9) rfl dX2_account_85 ?_
    have hres := Option.some.inj hsp
    subst hres
    exact W.iret (v := g0_7) hx hb hr (fun t ht hW => ⟨⟨g0_7, (), rfl, rfl, P_at ht hP⟩, hS.F ht⟩) hS.2.2 dX2_account_88
  have hsp := itF hsp c8
  by_cases c9 : u1 = 5
  · have hsp := itT hsp c9
    refine lv_tableIn (off := 88) (tgt := 89) hx hb dX2_account_1 (by rw [c9]; decide) (by rw [c9]; decide) (by rw [c9]; decide) (by decide) ?_
    refine lv_aload_n hx hb dX2_account_89 rfl (lv_at hl 0 rfl) ?_
    refine va_get (D := D) (ci := 2) (v := .int g0_8) (C := RX2) (T := TX2) (N := 12) hx hb hts hi_X2 hown hK hP 0 rfl rfl 8 (by decide) hf_41 (fun _ h9 => h9) rfl dX2_account_90 ?_
    have hres := Option.some.inj hsp
    subst hres
    exact W.iret (v := g0_8) hx hb hr (fun t ht hW => ⟨⟨g0_8, (), rfl, rfl, P_at ht hP⟩, hS.F ht⟩) hS.2.2 dX2_account_93
  have hsp := itF hsp c9
  by_cases c10 : u1 = 6
  · have hsp := itT hsp c10
    refine lv_tableIn (off := 93) (tgt := 94) hx hb dX2_account_1 (by rw [c10]; decide) (by rw [c10]; decide) (by rw [c10]; decide) (by decide) ?_
    refine lv_aload_n hx hb dX2_account_94 rfl (lv_at hl 0 rfl) ?_
    obtain ⟨r11, hcr11, hsp⟩ := clE hsp
    refine call_i (w1 := [(a0, .inr (2, [.ref a1, .ref a2, w0_2, .ref a4, .ref a5, .ref a6, .int g0_6, .int g0_7, .int g0_8, .int g0_9, w0_10, w0_11])), (a6, .inl (cI, 6, .inl f6))]) (ws' := [(a0, .inr (2, [.ref a1, .ref a2, w0_2, .ref a4, .ref a5, .ref a6, .int g0_6, .int g0_7, .int g0_8, .int g0_9, w0_10, w0_11])), (a1, .inl (cI, 2, .inl f1)), (a2, .inl (cI, 36, .inl f2)), (a4, .inl (cI, 18, .inl f4)), (a5, .inl (cI, 18, .inl f5)), (a6, .inl (cI, 6, .inl f6))]) (va_runV (As := []) (rest := []) ⟨hx, hb, hml, hown, hts⟩ (k_X2_panelsPainted l D cI cZ cC cS H.size a0 a6 (.ref a1) (.ref a2) (w0_2) (.ref a4) (.ref a5) (.int g0_6) (.int g0_7) (.int g0_8) (.int g0_9) (w0_10) (w0_11) f6 r11 hcr11) (cwV 0 hts gX2_account_X2_panelsPainted rfl rfl rfl nd_X2_panelsPainted ⟨Nat.le_of_ble_eq_true rfl, Nat.le_of_ble_eq_true rfl⟩) (PB.preV (ci := 2) (q0 := 0) hKU hP hD [0, 5] rfl rfl rfl rfl) rfl rfl hl.1 rfl (lv_room (Nat.le_of_ble_eq_true rfl)) dX2_account_95 ⟨Nat.zero_le _, Nat.zero_le _⟩) hS hP hD hA [0, 5] rfl rfl (by first | (simp only [wset, List.set_cons_zero, List.set_cons_succ]; done) | rfl) rfl (fun H locs hP hD hS => ?_)
    have hres := Option.some.inj hsp
    subst hres
    exact W.iret (v := r11) hx hb hr (fun t ht hW => ⟨⟨r11, (), rfl, rfl, P_at ht hP⟩, hS.F ht⟩) hS.2.2 dX2_account_98
  have hsp := itF hsp c10
  by_cases c12 : u1 = 7
  · have hsp := itT hsp c12
    refine lv_tableIn (off := 98) (tgt := 99) hx hb dX2_account_1 (by rw [c12]; decide) (by rw [c12]; decide) (by rw [c12]; decide) (by decide) ?_
    refine lv_aload_n hx hb dX2_account_99 rfl (lv_at hl 0 rfl) ?_
    obtain ⟨r13, hcr13, hsp⟩ := clE hsp
    refine call_i (w1 := [(a0, .inr (2, [.ref a1, .ref a2, w0_2, .ref a4, .ref a5, .ref a6, .int g0_6, .int g0_7, .int g0_8, .int g0_9, w0_10, w0_11])), (a1, .inl (cI, 2, .inl f1)), (a4, .inl (cI, 18, .inl f4)), (a5, .inl (cI, 18, .inl f5)), (a6, .inl (cI, 6, .inl f6))]) (ws' := [(a0, .inr (2, [.ref a1, .ref a2, w0_2, .ref a4, .ref a5, .ref a6, .int g0_6, .int g0_7, .int g0_8, .int g0_9, w0_10, w0_11])), (a1, .inl (cI, 2, .inl f1)), (a2, .inl (cI, 36, .inl f2)), (a4, .inl (cI, 18, .inl f4)), (a5, .inl (cI, 18, .inl f5)), (a6, .inl (cI, 6, .inl f6))]) (va_runV (As := []) (rest := []) ⟨hx, hb, hml, hown, hts⟩ (k_X2_panelsWell l D cI cZ cC cS H.size a0 a1 a4 a5 a6 (.ref a2) (w0_2) (.int g0_6) (.int g0_7) (.int g0_8) (.int g0_9) (w0_10) (w0_11) f1 f4 f5 f6 r13 hcr13) (cwV 0 hts gX2_account_X2_panelsWell rfl rfl rfl nd_X2_panelsWell ⟨Nat.le_of_ble_eq_true rfl, Nat.le_of_ble_eq_true rfl⟩) (PB.preV (ci := 2) (q0 := 0) hKU hP hD [0, 1, 3, 4, 5] rfl rfl rfl rfl) rfl rfl hl.1 rfl (lv_room (Nat.le_of_ble_eq_true rfl)) dX2_account_100 ⟨Nat.zero_le _, Nat.zero_le _⟩) hS hP hD hA [0, 1, 3, 4, 5] rfl rfl (by first | (simp only [wset, List.set_cons_zero, List.set_cons_succ]; done) | rfl) rfl (fun H locs hP hD hS => ?_)
    have hres := Option.some.inj hsp
    subst hres
    exact W.iret (v := r13) hx hb hr (fun t ht hW => ⟨⟨r13, (), rfl, rfl, P_at ht hP⟩, hS.F ht⟩) hS.2.2 dX2_account_103
  have hsp := itF hsp c12
  by_cases c14 : u1 = 8
  · have hsp := itT hsp c14
    refine lv_tableIn (off := 103) (tgt := 104) hx hb dX2_account_1 (by rw [c14]; decide) (by rw [c14]; decide) (by rw [c14]; decide) (by decide) ?_
    refine lv_aload_n hx hb dX2_account_104 rfl (lv_at hl 0 rfl) ?_
    obtain ⟨r15, hcr15, hsp⟩ := clE hsp
    refine call_i (w1 := [(a0, .inr (2, [.ref a1, .ref a2, w0_2, .ref a4, .ref a5, .ref a6, .int g0_6, .int g0_7, .int g0_8, .int g0_9, w0_10, w0_11])), (a6, .inl (cI, 6, .inl f6))]) (ws' := [(a0, .inr (2, [.ref a1, .ref a2, w0_2, .ref a4, .ref a5, .ref a6, .int g0_6, .int g0_7, .int g0_8, .int g0_9, w0_10, w0_11])), (a1, .inl (cI, 2, .inl f1)), (a2, .inl (cI, 36, .inl f2)), (a4, .inl (cI, 18, .inl f4)), (a5, .inl (cI, 18, .inl f5)), (a6, .inl (cI, 6, .inl f6))]) (va_runV (As := []) (rest := []) ⟨hx, hb, hml, hown, hts⟩ (k_X2_allStrokes l D cI cZ cC cS H.size a0 a6 (.ref a1) (.ref a2) (w0_2) (.ref a4) (.ref a5) (.int g0_6) (.int g0_7) (.int g0_8) (.int g0_9) (w0_10) (w0_11) f6 r15 hcr15) (cwV 0 hts gX2_account_X2_allStrokes rfl rfl rfl nd_X2_allStrokes ⟨Nat.le_of_ble_eq_true rfl, Nat.le_of_ble_eq_true rfl⟩) (PB.preV (ci := 2) (q0 := 0) hKU hP hD [0, 5] rfl rfl rfl rfl) rfl rfl hl.1 rfl (lv_room (Nat.le_of_ble_eq_true rfl)) dX2_account_105 ⟨Nat.zero_le _, Nat.zero_le _⟩) hS hP hD hA [0, 5] rfl rfl (by first | (simp only [wset, List.set_cons_zero, List.set_cons_succ]; done) | rfl) rfl (fun H locs hP hD hS => ?_)
    have hres := Option.some.inj hsp
    subst hres
    exact W.iret (v := r15) hx hb hr (fun t ht hW => ⟨⟨r15, (), rfl, rfl, P_at ht hP⟩, hS.F ht⟩) hS.2.2 dX2_account_108
  have hsp := itF hsp c14
  by_cases c16 : u1 = 9
  · have hsp := itT hsp c16
    refine lv_tableIn (off := 108) (tgt := 109) hx hb dX2_account_1 (by rw [c16]; decide) (by rw [c16]; decide) (by rw [c16]; decide) (by decide) ?_
    refine lv_aload_n hx hb dX2_account_109 rfl (lv_at hl 0 rfl) ?_
    refine va_get (D := D) (ci := 2) (v := .int g0_9) (C := RX2) (T := TX2) (N := 12) hx hb hts hi_X2 hown hK hP 0 rfl rfl 9 (by decide) hf_44 (fun _ h9 => h9) rfl dX2_account_110 ?_
    have hres := Option.some.inj hsp
    subst hres
    exact W.iret (v := g0_9) hx hb hr (fun t ht hW => ⟨⟨g0_9, (), rfl, rfl, P_at ht hP⟩, hS.F ht⟩) hS.2.2 dX2_account_113
  have hsp := itF hsp c16
  have tc1 := lv_neT (a := 0) c1 (by decide)
  have tc3 := lv_neT (a := 1) c3 (by decide)
  have tc5 := lv_neT (a := 2) c5 (by decide)
  have tc6 := lv_neT (a := 3) c6 (by decide)
  have tc8 := lv_neT (a := 4) c8 (by decide)
  have tc9 := lv_neT (a := 5) c9 (by decide)
  have tc10 := lv_neT (a := 6) c10 (by decide)
  have tc12 := lv_neT (a := 7) c12 (by decide)
  have tc14 := lv_neT (a := 8) c14 (by decide)
  have tc16 := lv_neT (a := 9) c16 (by decide)
  refine lv_tableOut (tgt := 114) hx hb dX2_account_1 (by omega) (by decide) ?_
  refine lv_bipush (v := (-2)) hx hb dX2_account_114 (by decide) ?_
  have hres := Option.some.inj hsp
  subst hres
  exact W.iret (v := (-2)) hx hb hr (fun t ht hW => ⟨⟨(-2), (), rfl, rfl, P_at ht hP⟩, hS.F ht⟩) hS.2.2 dX2_account_116

theorem nd_X4_isWithin : yX4_isWithin.cls = RX4 ∧ yX4_isWithin.cls ≠ "java/lang/invoke/MethodHandle" ∧ yX4_isWithin.cls ≠ "java/lang/invoke/VarHandle" ∧ (parseMethodDescriptor yX4_isWithin.desc).map (fun d => d.parameters.length) = some 2 := by decide +kernel
set_option maxHeartbeats 8000000 in
set_option maxRecDepth 100000 in
theorem k_X4_isWithin (l : Launch) (D : va_G) (cI cZ cC cS : ClassId) (sz : Nat) (u0 : Int32) (u1 : Int32) (res : Int32) (hsp : s_X4_isWithin u0 u1 = some res) : Met l yX4_isWithin wsX4_isWithin ({ frames := 0, cells := 0, slots := 0, locals := 0 }) (va_Pc [.int u0, .int u1] (PB D cI cZ cC cS [] sz)) (va_Qi (fun r (_ : Unit) => r = res ∧ (res = 0 ∨ res = 1)) (fun _ t => va_P D vwCl [] t.heap) (va_A [] sz)) 0 0 (va_A [] sz) := by
  refine Met.ofW (cc := cX4_isWithin) (maxL := 2) (ret := (some .boolean)) (by decide) rfl ?_
  intro p e s m args below meth c s₁ B hml hv
  obtain ⟨rfl, hsz, hP, hD0, hKU⟩ := hv
  have hx := B.exec
  have hb := B.bytes
  have hr := B.returns
  have hts := atoms_spec (ws := wsX4_isWithin) B.pre
  have hown : s.vm.findClass RX4 = some m.cls := findClass_of_methodNamed B.named
  have hlocks := B.notSynchronized
  have hK := hKU.1
  subst hsz
  have hD := hD0.self (sz := s.heap.size)
  generalize hAe : va_A [] s.heap.size = A at hD ⊢
  have hA : ∀ q : Nat, s.heap.size ≤ q → A q := fun q h => by rw [← hAe]; exact Or.inr h
  have hP : va_P D vwCl [] s.heap := hP
  generalize hHe : s.heap = H at hP ⊢
  have hS : va_S A s.heap H [] := by rw [hHe]; exact va_S.rf
  have hl := lv_entry ([.int u0, .int u1]) (n := 2) (Nat.le_of_ble_eq_true rfl)
  rw [lg_entry_eq]
  generalize (lg_sl ([.int u0, .int u1]) ++ List.replicate (2 - (lg_sl ([.int u0, .int u1])).length) Slot.unset).toArray = ls at hl ⊢
  have hl : lv_has ls 2 [(0, .int u0), (1, .int u1)] := hl
  unfold s_X4_isWithin at hsp
  refine lv_iload_n hx hb dX4_isWithin_0 rfl (lv_at hl 0 rfl) ?_
  refine lv_if_lt (tgt := 13) hx hb dX4_isWithin_1 (by decide) (fun c1 => ?_) (fun c1 => ?_)
  · have hsp := itT hsp c1
    refine lv_iconst (v := 0) hx hb dX4_isWithin_13 (by decide) ?_
    have hres := Option.some.inj hsp
    subst hres
    exact W.zret (v := 0) hx hb hr (zE (Or.inl rfl)) (fun t ht hW => ⟨⟨0, (), rfl, ⟨rfl, (Or.inl rfl)⟩, P_at ht hP⟩, hS.F ht⟩) hS.2.2 dX4_isWithin_14
  have hsp := itF hsp c1
  refine lv_iload_n hx hb dX4_isWithin_4 rfl (lv_at hl 0 rfl) ?_
  refine lv_iload_n hx hb dX4_isWithin_5 rfl (lv_at hl 1 rfl) ?_
  refine lv_icmp_ge (tgt := 13) hx hb dX4_isWithin_6 (by decide) (fun c2 => ?_) (fun c2 => ?_)
  · have hsp := itT hsp c2
    refine lv_iconst (v := 0) hx hb dX4_isWithin_13 (by decide) ?_
    have hres := Option.some.inj hsp
    subst hres
    exact W.zret (v := 0) hx hb hr (zE (Or.inl rfl)) (fun t ht hW => ⟨⟨0, (), rfl, ⟨rfl, (Or.inl rfl)⟩, P_at ht hP⟩, hS.F ht⟩) hS.2.2 dX4_isWithin_14
  have hsp := itF hsp c2
  refine lv_iconst (v := 1) hx hb dX4_isWithin_9 (by decide) ?_
  refine lv_goto (tgt := 14) hx hb dX4_isWithin_10 (by decide) ?_
  have hres := Option.some.inj hsp
  subst hres
  exact W.zret (v := 1) hx hb hr (zE (Or.inr rfl)) (fun t ht hW => ⟨⟨1, (), rfl, ⟨rfl, (Or.inr rfl)⟩, P_at ht hP⟩, hS.F ht⟩) hS.2.2 dX4_isWithin_14

theorem nd_X4_add : yX4_add.cls = RX4 ∧ yX4_add.cls ≠ "java/lang/invoke/MethodHandle" ∧ yX4_add.cls ≠ "java/lang/invoke/VarHandle" ∧ (parseMethodDescriptor yX4_add.desc).map (fun d => d.parameters.length) = some 3 := by decide +kernel
set_option maxHeartbeats 8000000 in
set_option maxRecDepth 100000 in
theorem k_X4_add (l : Launch) (D : va_G) (cI cZ cC cS : ClassId) (sz : Nat) (a0 : Nat) (n0 : Nat) (f0 : Nat → Int32) (u1 : Int32) (u2 : Int32) (res : (Nat → Int32)) (hsp : s_X4_add n0 f0 u1 u2 = some res) : Met l yX4_add wsX4_add ({ frames := 1, cells := 0, slots := 0, locals := 22 }) (va_Pc [.ref a0, .int u1, .int u2] (PB D cI cZ cC cS [(a0, .inl (cI, n0, .inl f0))] sz)) (va_Qv (fun (_ : Unit) => True) (fun _ t => va_P D vwCl [(a0, .inl (cI, n0, .inl res))] t.heap) (va_A [(a0, .inl (cI, n0, .inl f0))] sz)) 0 0 (va_A [(a0, .inl (cI, n0, .inl f0))] sz) := by
  refine Met.ofW (cc := cX4_add) (maxL := 3) (ret := none) (by decide) rfl ?_
  intro p e s m args below meth c s₁ B hml hv
  obtain ⟨rfl, hsz, hP, hD0, hKU⟩ := hv
  have hx := B.exec
  have hb := B.bytes
  have hr := B.returns
  have hts := atoms_spec (ws := wsX4_add) B.pre
  have hown : s.vm.findClass RX4 = some m.cls := findClass_of_methodNamed B.named
  have hlocks := B.notSynchronized
  have hK := hKU.1
  subst hsz
  have hD := hD0.self (sz := s.heap.size)
  generalize hAe : va_A [(a0, .inl (cI, n0, .inl f0))] s.heap.size = A at hD ⊢
  have hA : ∀ q : Nat, s.heap.size ≤ q → A q := fun q h => by rw [← hAe]; exact Or.inr h
  have hP : va_P D vwCl [(a0, .inl (cI, n0, .inl f0))] s.heap := hP
  generalize hHe : s.heap = H at hP ⊢
  have hS : va_S A s.heap H [] := by rw [hHe]; exact va_S.rf
  have hl := lv_entry ([.ref a0, .int u1, .int u2]) (n := 3) (Nat.le_of_ble_eq_true rfl)
  rw [lg_entry_eq]
  generalize (lg_sl ([.ref a0, .int u1, .int u2]) ++ List.replicate (3 - (lg_sl ([.ref a0, .int u1, .int u2])).length) Slot.unset).toArray = ls at hl ⊢
  have hl : lv_has ls 3 [(0, .ref a0), (1, .int u1), (2, .int u2)] := hl
  unfold s_X4_add at hsp
  refine lv_aload_n hx hb dX4_add_0 rfl (lv_at hl 0 rfl) ?_
  refine lv_iload_n hx hb dX4_add_1 rfl (lv_at hl 1 rfl) ?_
  refine lv_aload_n hx hb dX4_add_2 rfl (lv_at hl 0 rfl) ?_
  refine lv_iload_n hx hb dX4_add_3 rfl (lv_at hl 1 rfl) ?_
  obtain ⟨r1, hcr1, hsp⟩ := clE hsp
  refine call_i (w1 := [(a0, .inl (cI, n0, .inl f0))]) (ws' := [(a0, .inl (cI, n0, .inl f0))]) (va_runS (As := [.ref a0, .int u1]) (rest := [.int u1, .ref a0]) ⟨hx, hb, hml, hown, hts⟩ (k_X4_at l D cI cZ cC cS H.size a0 n0 f0 u1 r1 hcr1) (va_cwS 2 hts gX4_add_X4_at rfl rfl rfl nd_X4_at.2 ⟨Nat.le_of_ble_eq_true rfl, Nat.le_of_ble_eq_true rfl⟩) (PB.preS hKU hP hD [0] rfl rfl) rfl rfl hl.1 rfl (lv_room (Nat.le_of_ble_eq_true rfl)) dX4_add_4 ⟨Nat.zero_le _, Nat.zero_le _⟩) hS hP hD hA [0] rfl rfl (by first | (simp only [wset, List.set_cons_zero, List.set_cons_succ]; done) | rfl) rfl (fun H locs hP hD hS => ?_)
  refine lv_iload_n hx hb dX4_add_7 rfl (lv_at hl 2 rfl) ?_
  refine lv_iadd hx hb dX4_add_8 ?_
  obtain ⟨r2, hcr2, hsp⟩ := clE hsp
  refine call_v (w1 := [(a0, .inl (cI, n0, .inl r2))]) (ws' := [(a0, .inl (cI, n0, .inl r2))]) (va_runS (As := [.ref a0, .int u1, .int (r1 + u2)]) (rest := []) ⟨hx, hb, hml, hown, hts⟩ (k_X4_write l D cI cZ cC cS H.size a0 n0 f0 u1 (r1 + u2) r2 hcr2) (va_cwS 3 hts gX4_add_X4_write rfl rfl rfl nd_X4_write.2 ⟨Nat.le_of_ble_eq_true rfl, Nat.le_of_ble_eq_true rfl⟩) (PB.preS hKU hP hD [0] rfl rfl) rfl rfl hl.1 rfl (lv_room (Nat.le_of_ble_eq_true rfl)) dX4_add_9 ⟨Nat.zero_le _, Nat.zero_le _⟩) hS hP hD hA [0] rfl rfl (by first | (simp only [wset, List.set_cons_zero, List.set_cons_succ]; done) | rfl) rfl (fun H locs hP hD hS => ?_)
  have hres := Option.some.inj hsp
  subst hres
  exact W.vret hx hb hr (fun t ht hW => ⟨⟨(), rfl, trivial, P_at ht hP⟩, hS.F ht⟩) hS.2.2 dX4_add_12

theorem nd_X2_addDrops : yX2_addDrops.cls = RX2 ∧ yX2_addDrops.cls ≠ "java/lang/invoke/MethodHandle" ∧ yX2_addDrops.cls ≠ "java/lang/invoke/VarHandle" ∧ (parseMethodDescriptor yX2_addDrops.desc).map (fun d => d.parameters.length) = some 3 := by decide +kernel
set_option maxHeartbeats 8000000 in
set_option maxRecDepth 100000 in
theorem k_X2_addDrops (l : Launch) (D : va_G) (cI cZ cC cS : ClassId) (sz : Nat) (a0 a2 : Nat) (w0_0 : Value) (w0_2 : Value) (w0_3 : Value) (w0_4 : Value) (w0_5 : Value) (g0_6 : Int32) (w0_7 : Value) (w0_8 : Value) (w0_9 : Value) (w0_10 : Value) (w0_11 : Value) (f2 : Nat → Int32) (u1 : Int32) (u2 : Int32) (u3 : Int32) (res : Int32 × Int32 × (Nat → Int32)) (hsp : s_X2_addDrops g0_6 f2 u1 u2 u3 = some res) : Met l yX2_addDrops wsX2_addDrops ({ frames := 2, cells := 0, slots := 0, locals := 44 }) (va_Pc [.ref a0, .int u1, .int u2, .int u3] (PB D cI cZ cC cS [(a0, .inr (2, [w0_0, .ref a2, w0_2, w0_3, w0_4, w0_5, .int g0_6, w0_7, w0_8, w0_9, w0_10, w0_11])), (a2, .inl (cI, 36, .inl f2))] sz)) (va_Qi (fun r (_ : Unit) => r = res.1) (fun _ t => va_P D vwCl [(a0, .inr (2, [w0_0, .ref a2, w0_2, w0_3, w0_4, w0_5, .int res.2.1, w0_7, w0_8, w0_9, w0_10, w0_11])), (a2, .inl (cI, 36, .inl res.2.2))] t.heap) (va_A [(a0, .inr (2, [w0_0, .ref a2, w0_2, w0_3, w0_4, w0_5, .int g0_6, w0_7, w0_8, w0_9, w0_10, w0_11])), (a2, .inl (cI, 36, .inl f2))] sz)) 0 0 (va_A [(a0, .inr (2, [w0_0, .ref a2, w0_2, w0_3, w0_4, w0_5, .int g0_6, w0_7, w0_8, w0_9, w0_10, w0_11])), (a2, .inl (cI, 36, .inl f2))] sz) := by
  refine Met.ofW (cc := cX2_addDrops) (maxL := 5) (ret := (some .int)) (by decide) rfl ?_
  intro p e s m args below meth c s₁ B hml hv
  obtain ⟨rfl, hsz, hP, hD0, hKU⟩ := hv
  have hx := B.exec
  have hb := B.bytes
  have hr := B.returns
  have hts := atoms_spec (ws := wsX2_addDrops) B.pre
  have hown : s.vm.findClass RX2 = some m.cls := findClass_of_methodNamed B.named
  have hlocks := B.notSynchronized
  have hK := hKU.1
  have hst_X4_isWithin := hts (.static yX4_isWithin) (by decide +kernel)
  have hin_X4 := hts (.initialized RX4) (by decide +kernel)
  have hst_X4_isBetween := hts (.static yX4_isBetween) (by decide +kernel)
  have hf_19 := hts (.fieldLink RX2 19 "ThinnedPots$Studio" "drops" "[I") (by decide +kernel)
  have hi_X2 : ∀ w ∈ u_ws RX2 TX2 12, w ∈ wsX2_addDrops := by decide +kernel
  have hst_X4_add := hts (.static yX4_add) (by decide +kernel)
  have hf_34 := hts (.fieldLink RX2 34 "ThinnedPots$Studio" "dropsPutIn" "I") (by decide +kernel)
  subst hsz
  have hD := hD0.self (sz := s.heap.size)
  generalize hAe : va_A [(a0, .inr (2, [w0_0, .ref a2, w0_2, w0_3, w0_4, w0_5, .int g0_6, w0_7, w0_8, w0_9, w0_10, w0_11])), (a2, .inl (cI, 36, .inl f2))] s.heap.size = A at hD ⊢
  have hA : ∀ q : Nat, s.heap.size ≤ q → A q := fun q h => by rw [← hAe]; exact Or.inr h
  have hP : va_P D vwCl [(a0, .inr (2, [w0_0, .ref a2, w0_2, w0_3, w0_4, w0_5, .int g0_6, w0_7, w0_8, w0_9, w0_10, w0_11])), (a2, .inl (cI, 36, .inl f2))] s.heap := hP
  generalize hHe : s.heap = H at hP ⊢
  have hS : va_S A s.heap H [] := by rw [hHe]; exact va_S.rf
  have hl := lv_entry ([.ref a0, .int u1, .int u2, .int u3]) (n := 5) (Nat.le_of_ble_eq_true rfl)
  rw [lg_entry_eq]
  generalize (lg_sl ([.ref a0, .int u1, .int u2, .int u3]) ++ List.replicate (5 - (lg_sl ([.ref a0, .int u1, .int u2, .int u3])).length) Slot.unset).toArray = ls at hl ⊢
  have hl : lv_has ls 5 [(0, .ref a0), (1, .int u1), (2, .int u2), (3, .int u3)] := hl
  unfold s_X2_addDrops at hsp
  refine lv_iload_n hx hb dX2_addDrops_0 rfl (lv_at hl 1 rfl) ?_
  refine lv_bipush (v := 8) hx hb dX2_addDrops_1 (by decide) ?_
  obtain ⟨r1, hcr1, hsp⟩ := clE hsp
  refine call_z (w1 := []) (ws' := [(a0, .inr (2, [w0_0, .ref a2, w0_2, w0_3, w0_4, w0_5, .int g0_6, w0_7, w0_8, w0_9, w0_10, w0_11])), (a2, .inl (cI, 36, .inl f2))]) (va_runSN (As := [.int u1, .int 8]) (rest := []) ⟨hx, hb, hml, hown, hts⟩ (k_X4_isWithin l D cI cZ cC cS H.size u1 8 r1 hcr1) ⟨va_cnB 2 hts gX2_addDrops_X4_isWithin_n65 rfl rfl rfl (mn_Studio_65 hKU.2.2) hin_X4 nd_X4_isWithin.2 ⟨Nat.le_of_ble_eq_true rfl, Nat.le_of_ble_eq_true rfl⟩, hst_X4_isWithin, trivial⟩ (PB.preS hKU hP hD [] rfl rfl) rfl rfl hl.1 rfl (lv_room (Nat.le_of_ble_eq_true rfl)) dX2_addDrops_3 ⟨Nat.zero_le _, Nat.zero_le _⟩) hS hP hD hA [] rfl rfl (by first | (simp only [wset, List.set_cons_zero, List.set_cons_succ]; done) | rfl) rfl (fun H locs hP hD hS hzr1 => ?_)
  refine lv_if_eq (tgt := 17) hx hb dX2_addDrops_6 (by decide) (fun c2 => ?_) (fun c2 => ?_)
  · have hsp := itT hsp c2
    refine lv_iconst (v := (-1)) hx hb dX2_addDrops_17 (by decide) ?_
    have hres := Option.some.inj hsp
    subst hres
    exact W.iret (v := (-1)) hx hb hr (fun t ht hW => ⟨⟨(-1), (), rfl, rfl, P_at ht hP⟩, hS.F ht⟩) hS.2.2 dX2_addDrops_18
  have hsp := itF hsp c2
  refine lv_iload_n hx hb dX2_addDrops_9 rfl (lv_at hl 2 rfl) ?_
  refine lv_iconst (v := 4) hx hb dX2_addDrops_10 (by decide) ?_
  obtain ⟨r3, hcr3, hsp⟩ := clE hsp
  refine call_z (w1 := []) (ws' := [(a0, .inr (2, [w0_0, .ref a2, w0_2, w0_3, w0_4, w0_5, .int g0_6, w0_7, w0_8, w0_9, w0_10, w0_11])), (a2, .inl (cI, 36, .inl f2))]) (va_runSN (As := [.int u2, .int 4]) (rest := []) ⟨hx, hb, hml, hown, hts⟩ (k_X4_isWithin l D cI cZ cC cS H.size u2 4 r3 hcr3) ⟨va_cnB 2 hts gX2_addDrops_X4_isWithin_n65 rfl rfl rfl (mn_Studio_65 hKU.2.2) hin_X4 nd_X4_isWithin.2 ⟨Nat.le_of_ble_eq_true rfl, Nat.le_of_ble_eq_true rfl⟩, hst_X4_isWithin, trivial⟩ (PB.preS hKU hP hD [] rfl rfl) rfl rfl hl.1 rfl (lv_room (Nat.le_of_ble_eq_true rfl)) dX2_addDrops_11 ⟨Nat.zero_le _, Nat.zero_le _⟩) hS hP hD hA [] rfl rfl (by first | (simp only [wset, List.set_cons_zero, List.set_cons_succ]; done) | rfl) rfl (fun H locs hP hD hS hzr3 => ?_)
  refine lv_if_ne (tgt := 19) hx hb dX2_addDrops_14 (by decide) (fun c4 => ?_) (fun c4 => ?_)
  · have hsp := itF hsp c4
    refine lv_iload_n hx hb dX2_addDrops_19 rfl (lv_at hl 3 rfl) ?_
    refine lv_iconst (v := 1) hx hb dX2_addDrops_20 (by decide) ?_
    refine lv_bipush (v := 81) hx hb dX2_addDrops_21 (by decide) ?_
    obtain ⟨r5, hcr5, hsp⟩ := clE hsp
    refine call_z (w1 := []) (ws' := [(a0, .inr (2, [w0_0, .ref a2, w0_2, w0_3, w0_4, w0_5, .int g0_6, w0_7, w0_8, w0_9, w0_10, w0_11])), (a2, .inl (cI, 36, .inl f2))]) (va_runSN (As := [.int u3, .int 1, .int 81]) (rest := []) ⟨hx, hb, hml, hown, hts⟩ (k_X4_isBetween l D cI cZ cC cS H.size u3 1 81 r5 hcr5) ⟨va_cnB 3 hts gX2_addDrops_X4_isBetween_n57 rfl rfl rfl (mn_Studio_57 hKU.2.2) hin_X4 nd_X4_isBetween.2 ⟨Nat.le_of_ble_eq_true rfl, Nat.le_of_ble_eq_true rfl⟩, hst_X4_isBetween, trivial⟩ (PB.preS hKU hP hD [] rfl rfl) rfl rfl hl.1 rfl (lv_room (Nat.le_of_ble_eq_true rfl)) dX2_addDrops_23 ⟨Nat.zero_le _, Nat.zero_le _⟩) hS hP hD hA [] rfl rfl (by first | (simp only [wset, List.set_cons_zero, List.set_cons_succ]; done) | rfl) rfl (fun H locs hP hD hS hzr5 => ?_)
    refine lv_if_ne (tgt := 32) hx hb dX2_addDrops_26 (by decide) (fun c6 => ?_) (fun c6 => ?_)
    · have hsp := itF hsp c6
      refine lv_aload_n hx hb dX2_addDrops_32 rfl (lv_at hl 0 rfl) ?_
      refine lv_iload_n hx hb dX2_addDrops_33 rfl (lv_at hl 1 rfl) ?_
      obtain ⟨r7, hcr7, hsp⟩ := clE hsp
      refine call_i (w1 := [(a0, .inr (2, [w0_0, .ref a2, w0_2, w0_3, w0_4, w0_5, .int g0_6, w0_7, w0_8, w0_9, w0_10, w0_11])), (a2, .inl (cI, 36, .inl f2))]) (ws' := [(a0, .inr (2, [w0_0, .ref a2, w0_2, w0_3, w0_4, w0_5, .int g0_6, w0_7, w0_8, w0_9, w0_10, w0_11])), (a2, .inl (cI, 36, .inl f2))]) (va_runV (As := [.int u1]) (rest := []) ⟨hx, hb, hml, hown, hts⟩ (k_X2_allDrops l D cI cZ cC cS H.size a0 a2 (w0_0) (w0_2) (w0_3) (w0_4) (w0_5) (.int g0_6) (w0_7) (w0_8) (w0_9) (w0_10) (w0_11) f2 u1 r7 hcr7) (cwV 1 hts gX2_addDrops_X2_allDrops rfl rfl rfl nd_X2_allDrops ⟨Nat.le_of_ble_eq_true rfl, Nat.le_of_ble_eq_true rfl⟩) (PB.preV (ci := 2) (q0 := 0) hKU hP hD [0, 1] rfl rfl rfl rfl) rfl rfl hl.1 rfl (lv_room (Nat.le_of_ble_eq_true rfl)) dX2_addDrops_34 ⟨Nat.zero_le _, Nat.zero_le _⟩) hS hP hD hA [0, 1] rfl rfl (by first | (simp only [wset, List.set_cons_zero, List.set_cons_succ]; done) | rfl) rfl (fun H locs hP hD hS => ?_)
      refine lv_iload_n hx hb dX2_addDrops_37 rfl (lv_at hl 3 rfl) ?_
      refine lv_iadd hx hb dX2_addDrops_38 ?_
      obtain ⟨x8, ex8, hsp⟩ := nmE hsp
      refine r_top ex8 ?_
      refine lv_istore (lv' := [(4, .int x8), (0, .ref a0), (1, .int u1), (2, .int u2), (3, .int u3)]) hx hb dX2_addDrops_39 hl (by decide) rfl (fun ls hl => ?_)
      refine lv_iload hx hb dX2_addDrops_41 (lv_at hl 0 rfl) ?_
      refine lv_bipush (v := 81) hx hb dX2_addDrops_43 (by decide) ?_
      refine lv_icmp_le (tgt := 51) hx hb dX2_addDrops_45 (by decide) (fun c9 => ?_) (fun c9 => ?_)
      · have hsp := itT hsp c9
        refine lv_aload_n hx hb dX2_addDrops_51 rfl (lv_at hl 1 rfl) ?_
        refine va_get (D := D) (ci := 2) (v := .ref a2) (C := RX2) (T := TX2) (N := 12) hx hb hts hi_X2 hown hK hP 0 rfl rfl 1 (by decide) hf_19 (fun _ h9 => h9) rfl dX2_addDrops_52 ?_
        refine lv_iload_n hx hb dX2_addDrops_55 rfl (lv_at hl 2 rfl) ?_
        refine lv_iconst (v := 4) hx hb dX2_addDrops_56 (by decide) ?_
        refine lv_imul hx hb dX2_addDrops_57 ?_
        refine lv_iload_n hx hb dX2_addDrops_58 rfl (lv_at hl 3 rfl) ?_
        refine lv_iadd hx hb dX2_addDrops_59 ?_
        refine lv_iload_n hx hb dX2_addDrops_60 rfl (lv_at hl 4 rfl) ?_
        obtain ⟨r10, hcr10, hsp⟩ := clE hsp
        refine call_v (w1 := [(a2, .inl (cI, 36, .inl r10))]) (ws' := [(a0, .inr (2, [w0_0, .ref a2, w0_2, w0_3, w0_4, w0_5, .int g0_6, w0_7, w0_8, w0_9, w0_10, w0_11])), (a2, .inl (cI, 36, .inl r10))]) (va_runSN (As := [.ref a2, .int ((u1 * 4) + u2), .int u3]) (rest := []) ⟨hx, hb, hml, hown, hts⟩ (k_X4_add l D cI cZ cC cS H.size a2 36 f2 ((u1 * 4) + u2) u3 r10 hcr10) ⟨va_cnB 3 hts gX2_addDrops_X4_add_n73 rfl rfl rfl (mn_Studio_73 hKU.2.2) hin_X4 nd_X4_add.2 ⟨Nat.le_of_ble_eq_true rfl, Nat.le_of_ble_eq_true rfl⟩, hst_X4_add, trivial⟩ (PB.preS hKU hP hD [1] rfl rfl) rfl rfl hl.1 rfl (lv_room (Nat.le_of_ble_eq_true rfl)) dX2_addDrops_61 ⟨Nat.zero_le _, Nat.zero_le _⟩) hS hP hD hA [1] rfl rfl (by first | (simp only [wset, List.set_cons_zero, List.set_cons_succ]; done) | rfl) rfl (fun H locs hP hD hS => ?_)
        refine lv_aload_n hx hb dX2_addDrops_64 rfl (lv_at hl 1 rfl) ?_
        refine lv_dup hx hb dX2_addDrops_65 rfl ?_
        refine va_get (D := D) (ci := 2) (v := .int g0_6) (C := RX2) (T := TX2) (N := 12) hx hb hts hi_X2 hown hK hP 0 rfl rfl 6 (by decide) hf_34 (fun _ h9 => h9) rfl dX2_addDrops_66 ?_
        refine lv_iload_n hx hb dX2_addDrops_69 rfl (lv_at hl 4 rfl) ?_
        refine lv_iadd hx hb dX2_addDrops_70 ?_
        obtain ⟨x11, ex11, hsp⟩ := nmE hsp
        refine r_top ex11 ?_
        refine va_put (D := D) (ci := 2) (v := .int x11) (ty := .int) (C := RX2) (T := TX2) (N := 12) hx hb hts hi_X2 tyX2 tyX2_ok nmX2 hown hK hP hD hS 0 rfl rfl 6 (by decide) hf_34 (fun _ h9 => h9) rfl (by decide +kernel) rfl rfl (Nat.le_of_ble_eq_true rfl) dX2_addDrops_71 (fun H locs hP hD hS => ?_)
        have hP : va_P D vwCl [(a0, .inr (2, [w0_0, .ref a2, w0_2, w0_3, w0_4, w0_5, .int x11, w0_7, w0_8, w0_9, w0_10, w0_11])), (a2, .inl (cI, 36, .inl r10))] H := hP
        have hD : va_D A [(a0, .inr (2, [w0_0, .ref a2, w0_2, w0_3, w0_4, w0_5, .int x11, w0_7, w0_8, w0_9, w0_10, w0_11])), (a2, .inl (cI, 36, .inl r10))] := hD
        refine lv_iload hx hb dX2_addDrops_74 (lv_at hl 0 rfl) ?_
        have hres := Option.some.inj hsp
        subst hres
        exact W.iret (v := x8) hx hb hr (fun t ht hW => ⟨⟨x8, (), rfl, rfl, P_at ht hP⟩, hS.F ht⟩) hS.2.2 dX2_addDrops_76
      have hsp := itF hsp c9
      refine lv_bipush (v := (-4)) hx hb dX2_addDrops_48 (by decide) ?_
      have hres := Option.some.inj hsp
      subst hres
      exact W.iret (v := (-4)) hx hb hr (fun t ht hW => ⟨⟨(-4), (), rfl, rfl, P_at ht hP⟩, hS.F ht⟩) hS.2.2 dX2_addDrops_50
    have hsp := itT hsp c6
    refine lv_bipush (v := (-2)) hx hb dX2_addDrops_29 (by decide) ?_
    have hres := Option.some.inj hsp
    subst hres
    exact W.iret (v := (-2)) hx hb hr (fun t ht hW => ⟨⟨(-2), (), rfl, rfl, P_at ht hP⟩, hS.F ht⟩) hS.2.2 dX2_addDrops_31
  have hsp := itT hsp c4
  refine lv_iconst (v := (-1)) hx hb dX2_addDrops_17 (by decide) ?_
  have hres := Option.some.inj hsp
  subst hres
  exact W.iret (v := (-1)) hx hb hr (fun t ht hW => ⟨⟨(-1), (), rfl, rfl, P_at ht hP⟩, hS.F ht⟩) hS.2.2 dX2_addDrops_18

theorem nd_X2_changeSetting : yX2_changeSetting.cls = RX2 ∧ yX2_changeSetting.cls ≠ "java/lang/invoke/MethodHandle" ∧ yX2_changeSetting.cls ≠ "java/lang/invoke/VarHandle" ∧ (parseMethodDescriptor yX2_changeSetting.desc).map (fun d => d.parameters.length) = some 2 := by decide +kernel
set_option maxHeartbeats 8000000 in
set_option maxRecDepth 100000 in
theorem k_X2_changeSetting (l : Launch) (D : va_G) (cI cZ cC cS : ClassId) (sz : Nat) (a0 a1 : Nat) (w0_1 : Value) (w0_2 : Value) (w0_3 : Value) (w0_4 : Value) (w0_5 : Value) (w0_6 : Value) (w0_7 : Value) (w0_8 : Value) (w0_9 : Value) (w0_10 : Value) (w0_11 : Value) (f1 : Nat → Int32) (u1 : Int32) (u2 : Int32) (res : Int32 × (Nat → Int32)) (hsp : s_X2_changeSetting f1 u1 u2 = some res) : Met l yX2_changeSetting wsX2_changeSetting ({ frames := 1, cells := 0, slots := 0, locals := 22 }) (va_Pc [.ref a0, .int u1, .int u2] (PB D cI cZ cC cS [(a0, .inr (2, [.ref a1, w0_1, w0_2, w0_3, w0_4, w0_5, w0_6, w0_7, w0_8, w0_9, w0_10, w0_11])), (a1, .inl (cI, 2, .inl f1))] sz)) (va_Qi (fun r (_ : Unit) => r = res.1) (fun _ t => va_P D vwCl [(a0, .inr (2, [.ref a1, w0_1, w0_2, w0_3, w0_4, w0_5, w0_6, w0_7, w0_8, w0_9, w0_10, w0_11])), (a1, .inl (cI, 2, .inl res.2))] t.heap) (va_A [(a0, .inr (2, [.ref a1, w0_1, w0_2, w0_3, w0_4, w0_5, w0_6, w0_7, w0_8, w0_9, w0_10, w0_11])), (a1, .inl (cI, 2, .inl f1))] sz)) 0 0 (va_A [(a0, .inr (2, [.ref a1, w0_1, w0_2, w0_3, w0_4, w0_5, w0_6, w0_7, w0_8, w0_9, w0_10, w0_11])), (a1, .inl (cI, 2, .inl f1))] sz) := by
  refine Met.ofW (cc := cX2_changeSetting) (maxL := 5) (ret := (some .int)) (by decide) rfl ?_
  intro p e s m args below meth c s₁ B hml hv
  obtain ⟨rfl, hsz, hP, hD0, hKU⟩ := hv
  have hx := B.exec
  have hb := B.bytes
  have hr := B.returns
  have hts := atoms_spec (ws := wsX2_changeSetting) B.pre
  have hown : s.vm.findClass RX2 = some m.cls := findClass_of_methodNamed B.named
  have hlocks := B.notSynchronized
  have hK := hKU.1
  have hst_X4_isBetween := hts (.static yX4_isBetween) (by decide +kernel)
  have hin_X4 := hts (.initialized RX4) (by decide +kernel)
  have hf_9 := hts (.fieldLink RX2 9 "ThinnedPots$Studio" "settings" "[I") (by decide +kernel)
  have hi_X2 : ∀ w ∈ u_ws RX2 TX2 12, w ∈ wsX2_changeSetting := by decide +kernel
  have hst_X4_at := hts (.static yX4_at) (by decide +kernel)
  have hst_X4_write := hts (.static yX4_write) (by decide +kernel)
  subst hsz
  have hD := hD0.self (sz := s.heap.size)
  generalize hAe : va_A [(a0, .inr (2, [.ref a1, w0_1, w0_2, w0_3, w0_4, w0_5, w0_6, w0_7, w0_8, w0_9, w0_10, w0_11])), (a1, .inl (cI, 2, .inl f1))] s.heap.size = A at hD ⊢
  have hA : ∀ q : Nat, s.heap.size ≤ q → A q := fun q h => by rw [← hAe]; exact Or.inr h
  have hP : va_P D vwCl [(a0, .inr (2, [.ref a1, w0_1, w0_2, w0_3, w0_4, w0_5, w0_6, w0_7, w0_8, w0_9, w0_10, w0_11])), (a1, .inl (cI, 2, .inl f1))] s.heap := hP
  generalize hHe : s.heap = H at hP ⊢
  have hS : va_S A s.heap H [] := by rw [hHe]; exact va_S.rf
  have hl := lv_entry ([.ref a0, .int u1, .int u2]) (n := 5) (Nat.le_of_ble_eq_true rfl)
  rw [lg_entry_eq]
  generalize (lg_sl ([.ref a0, .int u1, .int u2]) ++ List.replicate (5 - (lg_sl ([.ref a0, .int u1, .int u2])).length) Slot.unset).toArray = ls at hl ⊢
  have hl : lv_has ls 5 [(0, .ref a0), (1, .int u1), (2, .int u2)] := hl
  unfold s_X2_changeSetting at hsp
  refine lv_iload_n hx hb dX2_changeSetting_0 rfl (lv_at hl 1 rfl) ?_
  refine lv_if_ne (tgt := 14) hx hb dX2_changeSetting_1 (by decide) (fun c1 => ?_) (fun c1 => ?_)
  · have hsp := itF hsp c1
    refine lv_iload_n hx hb dX2_changeSetting_14 rfl (lv_at hl 1 rfl) ?_
    refine lv_iconst (v := 1) hx hb dX2_changeSetting_15 (by decide) ?_
    refine lv_icmp_ne (tgt := 33) hx hb dX2_changeSetting_16 (by decide) (fun c2 => ?_) (fun c2 => ?_)
    · have hsp := itF hsp c2
      refine lv_iconst (v := 0) hx hb dX2_changeSetting_33 (by decide) ?_
      refine lv_istore_n (lv' := [(3, .int 0), (0, .ref a0), (1, .int u1), (2, .int u2)]) hx hb dX2_changeSetting_34 rfl hl (by decide) rfl (fun ls hl => ?_)
      refine lv_iload_n hx hb dX2_changeSetting_35 rfl (lv_at hl 0 rfl) ?_
      refine lv_if_ne (tgt := 42) hx hb dX2_changeSetting_36 (by decide) (fun hc => absurd hc (by decide)) (fun _ => ?_)
      refine lv_bipush (v := (-2)) hx hb dX2_changeSetting_39 (by decide) ?_
      have hres := Option.some.inj hsp
      subst hres
      exact W.iret (v := (-2)) hx hb hr (fun t ht hW => ⟨⟨(-2), (), rfl, rfl, P_at ht hP⟩, hS.F ht⟩) hS.2.2 dX2_changeSetting_41
    have hsp := itT hsp c2
    refine lv_iload_n hx hb dX2_changeSetting_19 rfl (lv_at hl 2 rfl) ?_
    refine lv_iconst (v := 0) hx hb dX2_changeSetting_20 (by decide) ?_
    refine lv_bipush (v := 60) hx hb dX2_changeSetting_21 (by decide) ?_
    obtain ⟨r3, hcr3, hsp⟩ := clE hsp
    refine call_z (w1 := []) (ws' := [(a0, .inr (2, [.ref a1, w0_1, w0_2, w0_3, w0_4, w0_5, w0_6, w0_7, w0_8, w0_9, w0_10, w0_11])), (a1, .inl (cI, 2, .inl f1))]) (va_runSN (As := [.int u2, .int 0, .int 60]) (rest := []) ⟨hx, hb, hml, hown, hts⟩ (k_X4_isBetween l D cI cZ cC cS H.size u2 0 60 r3 hcr3) ⟨va_cnB 3 hts gX2_changeSetting_X4_isBetween_n57 rfl rfl rfl (mn_Studio_57 hKU.2.2) hin_X4 nd_X4_isBetween.2 ⟨Nat.le_of_ble_eq_true rfl, Nat.le_of_ble_eq_true rfl⟩, hst_X4_isBetween, trivial⟩ (PB.preS hKU hP hD [] rfl rfl) rfl rfl hl.1 rfl (lv_room (Nat.le_of_ble_eq_true rfl)) dX2_changeSetting_23 ⟨Nat.zero_le _, Nat.zero_le _⟩) hS hP hD hA [] rfl rfl (by first | (simp only [wset, List.set_cons_zero, List.set_cons_succ]; done) | rfl) rfl (fun H locs hP hD hS hzr3 => ?_)
    refine lv_if_eq (tgt := 33) hx hb dX2_changeSetting_26 (by decide) (fun c4 => ?_) (fun c4 => ?_)
    · have hsp := itT hsp c4
      refine lv_iconst (v := 0) hx hb dX2_changeSetting_33 (by decide) ?_
      refine lv_istore_n (lv' := [(3, .int 0), (0, .ref a0), (1, .int u1), (2, .int u2)]) hx hb dX2_changeSetting_34 rfl hl (by decide) rfl (fun ls hl => ?_)
      refine lv_iload_n hx hb dX2_changeSetting_35 rfl (lv_at hl 0 rfl) ?_
      refine lv_if_ne (tgt := 42) hx hb dX2_changeSetting_36 (by decide) (fun hc => absurd hc (by decide)) (fun _ => ?_)
      refine lv_bipush (v := (-2)) hx hb dX2_changeSetting_39 (by decide) ?_
      have hres := Option.some.inj hsp
      subst hres
      exact W.iret (v := (-2)) hx hb hr (fun t ht hW => ⟨⟨(-2), (), rfl, rfl, P_at ht hP⟩, hS.F ht⟩) hS.2.2 dX2_changeSetting_41
    have hsp := itF hsp c4
    refine lv_iconst (v := 1) hx hb dX2_changeSetting_29 (by decide) ?_
    refine lv_goto (tgt := 34) hx hb dX2_changeSetting_30 (by decide) ?_
    refine lv_istore_n (lv' := [(3, .int 1), (0, .ref a0), (1, .int u1), (2, .int u2)]) hx hb dX2_changeSetting_34 rfl hl (by decide) rfl (fun ls hl => ?_)
    refine lv_iload_n hx hb dX2_changeSetting_35 rfl (lv_at hl 0 rfl) ?_
    refine lv_if_ne (tgt := 42) hx hb dX2_changeSetting_36 (by decide) (fun _ => ?_) (fun hc => absurd hc (by decide))
    refine lv_aload_n hx hb dX2_changeSetting_42 rfl (lv_at hl 1 rfl) ?_
    refine va_get (D := D) (ci := 2) (v := .ref a1) (C := RX2) (T := TX2) (N := 12) hx hb hts hi_X2 hown hK hP 0 rfl rfl 0 (by decide) hf_9 (fun _ h9 => h9) rfl dX2_changeSetting_43 ?_
    refine lv_iload_n hx hb dX2_changeSetting_46 rfl (lv_at hl 2 rfl) ?_
    obtain ⟨r5, hcr5, hsp⟩ := clE hsp
    refine call_i (w1 := [(a1, .inl (cI, 2, .inl f1))]) (ws' := [(a0, .inr (2, [.ref a1, w0_1, w0_2, w0_3, w0_4, w0_5, w0_6, w0_7, w0_8, w0_9, w0_10, w0_11])), (a1, .inl (cI, 2, .inl f1))]) (va_runSN (As := [.ref a1, .int u1]) (rest := []) ⟨hx, hb, hml, hown, hts⟩ (k_X4_at l D cI cZ cC cS H.size a1 2 f1 u1 r5 hcr5) ⟨va_cnB 2 hts gX2_changeSetting_X4_at_n61 rfl rfl rfl (mn_Studio_61 hKU.2.2) hin_X4 nd_X4_at.2 ⟨Nat.le_of_ble_eq_true rfl, Nat.le_of_ble_eq_true rfl⟩, hst_X4_at, trivial⟩ (PB.preS hKU hP hD [1] rfl rfl) rfl rfl hl.1 rfl (lv_room (Nat.le_of_ble_eq_true rfl)) dX2_changeSetting_47 ⟨Nat.zero_le _, Nat.zero_le _⟩) hS hP hD hA [1] rfl rfl (by first | (simp only [wset, List.set_cons_zero, List.set_cons_succ]; done) | rfl) rfl (fun H locs hP hD hS => ?_)
    refine lv_istore (lv' := [(4, .int r5), (3, .int 1), (0, .ref a0), (1, .int u1), (2, .int u2)]) hx hb dX2_changeSetting_50 hl (by decide) rfl (fun ls hl => ?_)
    refine lv_aload_n hx hb dX2_changeSetting_52 rfl (lv_at hl 2 rfl) ?_
    refine va_get (D := D) (ci := 2) (v := .ref a1) (C := RX2) (T := TX2) (N := 12) hx hb hts hi_X2 hown hK hP 0 rfl rfl 0 (by decide) hf_9 (fun _ h9 => h9) rfl dX2_changeSetting_53 ?_
    refine lv_iload_n hx hb dX2_changeSetting_56 rfl (lv_at hl 3 rfl) ?_
    refine lv_iload_n hx hb dX2_changeSetting_57 rfl (lv_at hl 4 rfl) ?_
    obtain ⟨r6, hcr6, hsp⟩ := clE hsp
    refine call_v (w1 := [(a1, .inl (cI, 2, .inl r6))]) (ws' := [(a0, .inr (2, [.ref a1, w0_1, w0_2, w0_3, w0_4, w0_5, w0_6, w0_7, w0_8, w0_9, w0_10, w0_11])), (a1, .inl (cI, 2, .inl r6))]) (va_runSN (As := [.ref a1, .int u1, .int u2]) (rest := []) ⟨hx, hb, hml, hown, hts⟩ (k_X4_write l D cI cZ cC cS H.size a1 2 f1 u1 u2 r6 hcr6) ⟨va_cnB 3 hts gX2_changeSetting_X4_write_n15 rfl rfl rfl (mn_Studio_15 hKU.2.2) hin_X4 nd_X4_write.2 ⟨Nat.le_of_ble_eq_true rfl, Nat.le_of_ble_eq_true rfl⟩, hst_X4_write, trivial⟩ (PB.preS hKU hP hD [1] rfl rfl) rfl rfl hl.1 rfl (lv_room (Nat.le_of_ble_eq_true rfl)) dX2_changeSetting_58 ⟨Nat.zero_le _, Nat.zero_le _⟩) hS hP hD hA [1] rfl rfl (by first | (simp only [wset, List.set_cons_zero, List.set_cons_succ]; done) | rfl) rfl (fun H locs hP hD hS => ?_)
    refine lv_iload hx hb dX2_changeSetting_61 (lv_at hl 0 rfl) ?_
    have hres := Option.some.inj hsp
    subst hres
    exact W.iret (v := r5) hx hb hr (fun t ht hW => ⟨⟨r5, (), rfl, rfl, P_at ht hP⟩, hS.F ht⟩) hS.2.2 dX2_changeSetting_63
  have hsp := itT hsp c1
  refine lv_iload_n hx hb dX2_changeSetting_4 rfl (lv_at hl 2 rfl) ?_
  refine lv_iconst (v := 1) hx hb dX2_changeSetting_5 (by decide) ?_
  refine lv_bipush (v := 9) hx hb dX2_changeSetting_6 (by decide) ?_
  obtain ⟨r7, hcr7, hsp⟩ := clE hsp
  refine call_z (w1 := []) (ws' := [(a0, .inr (2, [.ref a1, w0_1, w0_2, w0_3, w0_4, w0_5, w0_6, w0_7, w0_8, w0_9, w0_10, w0_11])), (a1, .inl (cI, 2, .inl f1))]) (va_runSN (As := [.int u2, .int 1, .int 9]) (rest := []) ⟨hx, hb, hml, hown, hts⟩ (k_X4_isBetween l D cI cZ cC cS H.size u2 1 9 r7 hcr7) ⟨va_cnB 3 hts gX2_changeSetting_X4_isBetween_n57 rfl rfl rfl (mn_Studio_57 hKU.2.2) hin_X4 nd_X4_isBetween.2 ⟨Nat.le_of_ble_eq_true rfl, Nat.le_of_ble_eq_true rfl⟩, hst_X4_isBetween, trivial⟩ (PB.preS hKU hP hD [] rfl rfl) rfl rfl hl.1 rfl (lv_room (Nat.le_of_ble_eq_true rfl)) dX2_changeSetting_8 ⟨Nat.zero_le _, Nat.zero_le _⟩) hS hP hD hA [] rfl rfl (by first | (simp only [wset, List.set_cons_zero, List.set_cons_succ]; done) | rfl) rfl (fun H locs hP hD hS hzr7 => ?_)
  refine lv_if_ne (tgt := 29) hx hb dX2_changeSetting_11 (by decide) (fun c8 => ?_) (fun c8 => ?_)
  · have hsp := itF hsp c8
    refine lv_iconst (v := 1) hx hb dX2_changeSetting_29 (by decide) ?_
    refine lv_goto (tgt := 34) hx hb dX2_changeSetting_30 (by decide) ?_
    refine lv_istore_n (lv' := [(3, .int 1), (0, .ref a0), (1, .int u1), (2, .int u2)]) hx hb dX2_changeSetting_34 rfl hl (by decide) rfl (fun ls hl => ?_)
    refine lv_iload_n hx hb dX2_changeSetting_35 rfl (lv_at hl 0 rfl) ?_
    refine lv_if_ne (tgt := 42) hx hb dX2_changeSetting_36 (by decide) (fun _ => ?_) (fun hc => absurd hc (by decide))
    refine lv_aload_n hx hb dX2_changeSetting_42 rfl (lv_at hl 1 rfl) ?_
    refine va_get (D := D) (ci := 2) (v := .ref a1) (C := RX2) (T := TX2) (N := 12) hx hb hts hi_X2 hown hK hP 0 rfl rfl 0 (by decide) hf_9 (fun _ h9 => h9) rfl dX2_changeSetting_43 ?_
    refine lv_iload_n hx hb dX2_changeSetting_46 rfl (lv_at hl 2 rfl) ?_
    obtain ⟨r9, hcr9, hsp⟩ := clE hsp
    refine call_i (w1 := [(a1, .inl (cI, 2, .inl f1))]) (ws' := [(a0, .inr (2, [.ref a1, w0_1, w0_2, w0_3, w0_4, w0_5, w0_6, w0_7, w0_8, w0_9, w0_10, w0_11])), (a1, .inl (cI, 2, .inl f1))]) (va_runSN (As := [.ref a1, .int u1]) (rest := []) ⟨hx, hb, hml, hown, hts⟩ (k_X4_at l D cI cZ cC cS H.size a1 2 f1 u1 r9 hcr9) ⟨va_cnB 2 hts gX2_changeSetting_X4_at_n61 rfl rfl rfl (mn_Studio_61 hKU.2.2) hin_X4 nd_X4_at.2 ⟨Nat.le_of_ble_eq_true rfl, Nat.le_of_ble_eq_true rfl⟩, hst_X4_at, trivial⟩ (PB.preS hKU hP hD [1] rfl rfl) rfl rfl hl.1 rfl (lv_room (Nat.le_of_ble_eq_true rfl)) dX2_changeSetting_47 ⟨Nat.zero_le _, Nat.zero_le _⟩) hS hP hD hA [1] rfl rfl (by first | (simp only [wset, List.set_cons_zero, List.set_cons_succ]; done) | rfl) rfl (fun H locs hP hD hS => ?_)
    refine lv_istore (lv' := [(4, .int r9), (3, .int 1), (0, .ref a0), (1, .int u1), (2, .int u2)]) hx hb dX2_changeSetting_50 hl (by decide) rfl (fun ls hl => ?_)
    refine lv_aload_n hx hb dX2_changeSetting_52 rfl (lv_at hl 2 rfl) ?_
    refine va_get (D := D) (ci := 2) (v := .ref a1) (C := RX2) (T := TX2) (N := 12) hx hb hts hi_X2 hown hK hP 0 rfl rfl 0 (by decide) hf_9 (fun _ h9 => h9) rfl dX2_changeSetting_53 ?_
    refine lv_iload_n hx hb dX2_changeSetting_56 rfl (lv_at hl 3 rfl) ?_
    refine lv_iload_n hx hb dX2_changeSetting_57 rfl (lv_at hl 4 rfl) ?_
    obtain ⟨r10, hcr10, hsp⟩ := clE hsp
    refine call_v (w1 := [(a1, .inl (cI, 2, .inl r10))]) (ws' := [(a0, .inr (2, [.ref a1, w0_1, w0_2, w0_3, w0_4, w0_5, w0_6, w0_7, w0_8, w0_9, w0_10, w0_11])), (a1, .inl (cI, 2, .inl r10))]) (va_runSN (As := [.ref a1, .int u1, .int u2]) (rest := []) ⟨hx, hb, hml, hown, hts⟩ (k_X4_write l D cI cZ cC cS H.size a1 2 f1 u1 u2 r10 hcr10) ⟨va_cnB 3 hts gX2_changeSetting_X4_write_n15 rfl rfl rfl (mn_Studio_15 hKU.2.2) hin_X4 nd_X4_write.2 ⟨Nat.le_of_ble_eq_true rfl, Nat.le_of_ble_eq_true rfl⟩, hst_X4_write, trivial⟩ (PB.preS hKU hP hD [1] rfl rfl) rfl rfl hl.1 rfl (lv_room (Nat.le_of_ble_eq_true rfl)) dX2_changeSetting_58 ⟨Nat.zero_le _, Nat.zero_le _⟩) hS hP hD hA [1] rfl rfl (by first | (simp only [wset, List.set_cons_zero, List.set_cons_succ]; done) | rfl) rfl (fun H locs hP hD hS => ?_)
    refine lv_iload hx hb dX2_changeSetting_61 (lv_at hl 0 rfl) ?_
    have hres := Option.some.inj hsp
    subst hres
    exact W.iret (v := r9) hx hb hr (fun t ht hW => ⟨⟨r9, (), rfl, rfl, P_at ht hP⟩, hS.F ht⟩) hS.2.2 dX2_changeSetting_63
  have hsp := itT hsp c8
  refine lv_iload_n hx hb dX2_changeSetting_14 rfl (lv_at hl 1 rfl) ?_
  refine lv_iconst (v := 1) hx hb dX2_changeSetting_15 (by decide) ?_
  refine lv_icmp_ne (tgt := 33) hx hb dX2_changeSetting_16 (by decide) (fun c11 => ?_) (fun c11 => ?_)
  · have hsp := itF hsp c11
    refine lv_iconst (v := 0) hx hb dX2_changeSetting_33 (by decide) ?_
    refine lv_istore_n (lv' := [(3, .int 0), (0, .ref a0), (1, .int u1), (2, .int u2)]) hx hb dX2_changeSetting_34 rfl hl (by decide) rfl (fun ls hl => ?_)
    refine lv_iload_n hx hb dX2_changeSetting_35 rfl (lv_at hl 0 rfl) ?_
    refine lv_if_ne (tgt := 42) hx hb dX2_changeSetting_36 (by decide) (fun hc => absurd hc (by decide)) (fun _ => ?_)
    refine lv_bipush (v := (-2)) hx hb dX2_changeSetting_39 (by decide) ?_
    have hres := Option.some.inj hsp
    subst hres
    exact W.iret (v := (-2)) hx hb hr (fun t ht hW => ⟨⟨(-2), (), rfl, rfl, P_at ht hP⟩, hS.F ht⟩) hS.2.2 dX2_changeSetting_41
  have hsp := itT hsp c11
  refine lv_iload_n hx hb dX2_changeSetting_19 rfl (lv_at hl 2 rfl) ?_
  refine lv_iconst (v := 0) hx hb dX2_changeSetting_20 (by decide) ?_
  refine lv_bipush (v := 60) hx hb dX2_changeSetting_21 (by decide) ?_
  obtain ⟨r12, hcr12, hsp⟩ := clE hsp
  refine call_z (w1 := []) (ws' := [(a0, .inr (2, [.ref a1, w0_1, w0_2, w0_3, w0_4, w0_5, w0_6, w0_7, w0_8, w0_9, w0_10, w0_11])), (a1, .inl (cI, 2, .inl f1))]) (va_runSN (As := [.int u2, .int 0, .int 60]) (rest := []) ⟨hx, hb, hml, hown, hts⟩ (k_X4_isBetween l D cI cZ cC cS H.size u2 0 60 r12 hcr12) ⟨va_cnB 3 hts gX2_changeSetting_X4_isBetween_n57 rfl rfl rfl (mn_Studio_57 hKU.2.2) hin_X4 nd_X4_isBetween.2 ⟨Nat.le_of_ble_eq_true rfl, Nat.le_of_ble_eq_true rfl⟩, hst_X4_isBetween, trivial⟩ (PB.preS hKU hP hD [] rfl rfl) rfl rfl hl.1 rfl (lv_room (Nat.le_of_ble_eq_true rfl)) dX2_changeSetting_23 ⟨Nat.zero_le _, Nat.zero_le _⟩) hS hP hD hA [] rfl rfl (by first | (simp only [wset, List.set_cons_zero, List.set_cons_succ]; done) | rfl) rfl (fun H locs hP hD hS hzr12 => ?_)
  refine lv_if_eq (tgt := 33) hx hb dX2_changeSetting_26 (by decide) (fun c13 => ?_) (fun c13 => ?_)
  · have hsp := itT hsp c13
    refine lv_iconst (v := 0) hx hb dX2_changeSetting_33 (by decide) ?_
    refine lv_istore_n (lv' := [(3, .int 0), (0, .ref a0), (1, .int u1), (2, .int u2)]) hx hb dX2_changeSetting_34 rfl hl (by decide) rfl (fun ls hl => ?_)
    refine lv_iload_n hx hb dX2_changeSetting_35 rfl (lv_at hl 0 rfl) ?_
    refine lv_if_ne (tgt := 42) hx hb dX2_changeSetting_36 (by decide) (fun hc => absurd hc (by decide)) (fun _ => ?_)
    refine lv_bipush (v := (-2)) hx hb dX2_changeSetting_39 (by decide) ?_
    have hres := Option.some.inj hsp
    subst hres
    exact W.iret (v := (-2)) hx hb hr (fun t ht hW => ⟨⟨(-2), (), rfl, rfl, P_at ht hP⟩, hS.F ht⟩) hS.2.2 dX2_changeSetting_41
  have hsp := itF hsp c13
  refine lv_iconst (v := 1) hx hb dX2_changeSetting_29 (by decide) ?_
  refine lv_goto (tgt := 34) hx hb dX2_changeSetting_30 (by decide) ?_
  refine lv_istore_n (lv' := [(3, .int 1), (0, .ref a0), (1, .int u1), (2, .int u2)]) hx hb dX2_changeSetting_34 rfl hl (by decide) rfl (fun ls hl => ?_)
  refine lv_iload_n hx hb dX2_changeSetting_35 rfl (lv_at hl 0 rfl) ?_
  refine lv_if_ne (tgt := 42) hx hb dX2_changeSetting_36 (by decide) (fun _ => ?_) (fun hc => absurd hc (by decide))
  refine lv_aload_n hx hb dX2_changeSetting_42 rfl (lv_at hl 1 rfl) ?_
  refine va_get (D := D) (ci := 2) (v := .ref a1) (C := RX2) (T := TX2) (N := 12) hx hb hts hi_X2 hown hK hP 0 rfl rfl 0 (by decide) hf_9 (fun _ h9 => h9) rfl dX2_changeSetting_43 ?_
  refine lv_iload_n hx hb dX2_changeSetting_46 rfl (lv_at hl 2 rfl) ?_
  obtain ⟨r14, hcr14, hsp⟩ := clE hsp
  refine call_i (w1 := [(a1, .inl (cI, 2, .inl f1))]) (ws' := [(a0, .inr (2, [.ref a1, w0_1, w0_2, w0_3, w0_4, w0_5, w0_6, w0_7, w0_8, w0_9, w0_10, w0_11])), (a1, .inl (cI, 2, .inl f1))]) (va_runSN (As := [.ref a1, .int u1]) (rest := []) ⟨hx, hb, hml, hown, hts⟩ (k_X4_at l D cI cZ cC cS H.size a1 2 f1 u1 r14 hcr14) ⟨va_cnB 2 hts gX2_changeSetting_X4_at_n61 rfl rfl rfl (mn_Studio_61 hKU.2.2) hin_X4 nd_X4_at.2 ⟨Nat.le_of_ble_eq_true rfl, Nat.le_of_ble_eq_true rfl⟩, hst_X4_at, trivial⟩ (PB.preS hKU hP hD [1] rfl rfl) rfl rfl hl.1 rfl (lv_room (Nat.le_of_ble_eq_true rfl)) dX2_changeSetting_47 ⟨Nat.zero_le _, Nat.zero_le _⟩) hS hP hD hA [1] rfl rfl (by first | (simp only [wset, List.set_cons_zero, List.set_cons_succ]; done) | rfl) rfl (fun H locs hP hD hS => ?_)
  refine lv_istore (lv' := [(4, .int r14), (3, .int 1), (0, .ref a0), (1, .int u1), (2, .int u2)]) hx hb dX2_changeSetting_50 hl (by decide) rfl (fun ls hl => ?_)
  refine lv_aload_n hx hb dX2_changeSetting_52 rfl (lv_at hl 2 rfl) ?_
  refine va_get (D := D) (ci := 2) (v := .ref a1) (C := RX2) (T := TX2) (N := 12) hx hb hts hi_X2 hown hK hP 0 rfl rfl 0 (by decide) hf_9 (fun _ h9 => h9) rfl dX2_changeSetting_53 ?_
  refine lv_iload_n hx hb dX2_changeSetting_56 rfl (lv_at hl 3 rfl) ?_
  refine lv_iload_n hx hb dX2_changeSetting_57 rfl (lv_at hl 4 rfl) ?_
  obtain ⟨r15, hcr15, hsp⟩ := clE hsp
  refine call_v (w1 := [(a1, .inl (cI, 2, .inl r15))]) (ws' := [(a0, .inr (2, [.ref a1, w0_1, w0_2, w0_3, w0_4, w0_5, w0_6, w0_7, w0_8, w0_9, w0_10, w0_11])), (a1, .inl (cI, 2, .inl r15))]) (va_runSN (As := [.ref a1, .int u1, .int u2]) (rest := []) ⟨hx, hb, hml, hown, hts⟩ (k_X4_write l D cI cZ cC cS H.size a1 2 f1 u1 u2 r15 hcr15) ⟨va_cnB 3 hts gX2_changeSetting_X4_write_n15 rfl rfl rfl (mn_Studio_15 hKU.2.2) hin_X4 nd_X4_write.2 ⟨Nat.le_of_ble_eq_true rfl, Nat.le_of_ble_eq_true rfl⟩, hst_X4_write, trivial⟩ (PB.preS hKU hP hD [1] rfl rfl) rfl rfl hl.1 rfl (lv_room (Nat.le_of_ble_eq_true rfl)) dX2_changeSetting_58 ⟨Nat.zero_le _, Nat.zero_le _⟩) hS hP hD hA [1] rfl rfl (by first | (simp only [wset, List.set_cons_zero, List.set_cons_succ]; done) | rfl) rfl (fun H locs hP hD hS => ?_)
  refine lv_iload hx hb dX2_changeSetting_61 (lv_at hl 0 rfl) ?_
  have hres := Option.some.inj hsp
  subst hres
  exact W.iret (v := r14) hx hb hr (fun t ht hW => ⟨⟨r14, (), rfl, rfl, P_at ht hP⟩, hS.F ht⟩) hS.2.2 dX2_changeSetting_63

theorem nd_X4_copyRow : yX4_copyRow.cls = RX4 ∧ yX4_copyRow.cls ≠ "java/lang/invoke/MethodHandle" ∧ yX4_copyRow.cls ≠ "java/lang/invoke/VarHandle" ∧ (parseMethodDescriptor yX4_copyRow.desc).map (fun d => d.parameters.length) = some 2 := by decide +kernel
set_option maxHeartbeats 8000000 in
set_option maxRecDepth 100000 in
theorem k_X4_copyRow (l : Launch) (D : va_G) (cI cZ cC cS : ClassId) (sz : Nat) (a0 a1 : Nat) (n0 : Nat) (f0 : Nat → Int32) (n1 : Nat) (f1 : Nat → Int32) (res : (Nat → Int32)) (hsp : s_X4_copyRow n0 f0 n1 f1 = some res) : Met l yX4_copyRow wsX4_copyRow ({ frames := 1, cells := 0, slots := 0, locals := 24 }) (va_Pc [.ref a0, .ref a1] (PB D cI cZ cC cS [(a0, .inl (cI, n0, .inl f0)), (a1, .inl (cI, n1, .inl f1))] sz)) (va_Qv (fun (_ : Unit) => True) (fun _ t => va_P D vwCl [(a0, .inl (cI, n0, .inl f0)), (a1, .inl (cI, n1, .inl res))] t.heap) (va_A [(a0, .inl (cI, n0, .inl f0)), (a1, .inl (cI, n1, .inl f1))] sz)) 0 0 (va_A [(a0, .inl (cI, n0, .inl f0)), (a1, .inl (cI, n1, .inl f1))] sz) := by
  refine Met.ofW (cc := cX4_copyRow) (maxL := 2) (ret := none) (by decide) rfl ?_
  intro p e s m args below meth c s₁ B hml hv
  obtain ⟨rfl, hsz, hP, hD0, hKU⟩ := hv
  have hx := B.exec
  have hb := B.bytes
  have hr := B.returns
  have hts := atoms_spec (ws := wsX4_copyRow) B.pre
  have hown : s.vm.findClass RX4 = some m.cls := findClass_of_methodNamed B.named
  have hlocks := B.notSynchronized
  have hK := hKU.1
  have hm_l163 := hts (.methodLink RX4 163 Lib.Math.min.name) (by decide +kernel)
  have hm_s_min := hts (.static Lib.Math.min.name) (by decide +kernel)
  have hm_i := hts (.initialized "java/lang/Math") (by decide +kernel)
  have hm_c_min := hts (.code Lib.Math.min.name Lib.Math.min.code 2 (some .int)) (by decide +kernel)
  have hac_l := hts (.methodLink RX4 197 arraycopyName) (by decide +kernel)
  have hac_n := hts (.native arraycopyName) (by decide +kernel)
  have hac_s := hts (.static arraycopyName) (by decide +kernel)
  have hac_i := hts (.initialized "java/lang/System") (by decide +kernel)
  subst hsz
  have hD := hD0.self (sz := s.heap.size)
  generalize hAe : va_A [(a0, .inl (cI, n0, .inl f0)), (a1, .inl (cI, n1, .inl f1))] s.heap.size = A at hD ⊢
  have hA : ∀ q : Nat, s.heap.size ≤ q → A q := fun q h => by rw [← hAe]; exact Or.inr h
  have hP : va_P D vwCl [(a0, .inl (cI, n0, .inl f0)), (a1, .inl (cI, n1, .inl f1))] s.heap := hP
  generalize hHe : s.heap = H at hP ⊢
  have hS : va_S A s.heap H [] := by rw [hHe]; exact va_S.rf
  have hl := lv_entry ([.ref a0, .ref a1]) (n := 2) (Nat.le_of_ble_eq_true rfl)
  rw [lg_entry_eq]
  generalize (lg_sl ([.ref a0, .ref a1]) ++ List.replicate (2 - (lg_sl ([.ref a0, .ref a1])).length) Slot.unset).toArray = ls at hl ⊢
  have hl : lv_has ls 2 [(0, .ref a0), (1, .ref a1)] := hl
  unfold s_X4_copyRow at hsp
  refine lv_aload_n hx hb dX4_copyRow_0 rfl (lv_at hl 0 rfl) ?_
  refine lv_ifnull hx hb dX4_copyRow_1 ?_
  refine lv_aload_n hx hb dX4_copyRow_4 rfl (lv_at hl 1 rfl) ?_
  refine lv_ifnull hx hb dX4_copyRow_5 ?_
  refine lv_aload_n hx hb dX4_copyRow_8 rfl (lv_at hl 0 rfl) ?_
  refine lv_iconst (v := 0) hx hb dX4_copyRow_9 (by decide) ?_
  refine lv_aload_n hx hb dX4_copyRow_10 rfl (lv_at hl 1 rfl) ?_
  refine lv_iconst (v := 0) hx hb dX4_copyRow_11 (by decide) ?_
  refine lv_aload_n hx hb dX4_copyRow_12 rfl (lv_at hl 0 rfl) ?_
  refine va_alen (v := Int32.ofNat n0) hx hb hK hP 0 0 rfl rfl rfl dX4_copyRow_13 ?_
  refine lv_aload_n hx hb dX4_copyRow_14 rfl (lv_at hl 1 rfl) ?_
  refine va_alen (v := Int32.ofNat n1) hx hb hK hP 1 0 rfl rfl rfl dX4_copyRow_15 ?_
  refine va_mmin hx hb (by rw [hml]; exact hl.1.symm) hown hm_l163 hm_s_min hm_i hm_c_min (Nat.le_of_ble_eq_true rfl) (Nat.le_of_ble_eq_true rfl) (Nat.zero_le _) (Nat.zero_le _) dX4_copyRow_16 ?_
  obtain ⟨x1, ex1, hsp⟩ := nmE hsp
  refine r_top ex1 ?_
  obtain ⟨y2, ey2, hny2, hsp⟩ := cpyE hsp
  refine r_copyi (ws' := [(a0, .inl (cI, n0, .inl f0)), (a1, .inl (cI, n1, .inl y2))]) hx hb (by rw [hml]; exact hl.1.symm) hown hac_l hac_n hac_s hac_i hK hP hD hS 0 1 0 0 rfl rfl rfl rfl ey2 hny2 rfl (Nat.le_of_ble_eq_true rfl) (Nat.le_of_ble_eq_true rfl) dX4_copyRow_19 (fun H locs hP hD hS => ?_)
  have hres := Option.some.inj hsp
  subst hres
  exact W.vret hx hb hr (fun t ht hW => ⟨⟨(), rfl, trivial, P_at ht hP⟩, hS.F ht⟩) hS.2.2 dX4_copyRow_22

theorem nd_X2_copyFrom : yX2_copyFrom.cls = RX2 ∧ yX2_copyFrom.cls ≠ "java/lang/invoke/MethodHandle" ∧ yX2_copyFrom.cls ≠ "java/lang/invoke/VarHandle" ∧ (parseMethodDescriptor yX2_copyFrom.desc).map (fun d => d.parameters.length) = some 1 := by decide +kernel
set_option maxHeartbeats 8000000 in
set_option maxRecDepth 100000 in
theorem k_X2_copyFrom (l : Launch) (D : va_G) (cI cZ cC cS : ClassId) (sz : Nat) (a0 a1 a2 a3 a4 a5 a6 a9 a10 a11 a12 a13 a14 a15 : Nat) (g0_6 : Int32) (g0_7 : Int32) (g0_8 : Int32) (g0_9 : Int32) (w0_10 : Value) (w0_11 : Value) (f1 : Nat → Int32) (f2 : Nat → Int32) (f3 : Nat → Int32) (f4 : Nat → Int32) (f5 : Nat → Int32) (f6 : Nat → Int32) (g9_6 : Int32) (g9_7 : Int32) (g9_8 : Int32) (g9_9 : Int32) (w9_10 : Value) (w9_11 : Value) (f10 : Nat → Int32) (f11 : Nat → Int32) (f12 : Nat → Int32) (f13 : Nat → Int32) (f14 : Nat → Int32) (f15 : Nat → Int32) (res : Int32 × Int32 × Int32 × Int32 × (Nat → Int32) × (Nat → Int32) × (Nat → Int32) × (Nat → Int32) × (Nat → Int32) × (Nat → Int32)) (hsp : s_X2_copyFrom f1 f2 f3 f4 f5 f6 g9_6 g9_7 g9_8 g9_9 f10 f11 f12 f13 f14 f15 = some res) : Met l yX2_copyFrom wsX2_copyFrom ({ frames := 2, cells := 0, slots := 0, locals := 45 }) (va_Pc [.ref a0, .ref a9] (PB D cI cZ cC cS [(a0, .inr (2, [.ref a1, .ref a2, .ref a3, .ref a4, .ref a5, .ref a6, .int g0_6, .int g0_7, .int g0_8, .int g0_9, w0_10, w0_11])), (a1, .inl (cI, 2, .inl f1)), (a2, .inl (cI, 36, .inl f2)), (a3, .inl (cI, 8, .inl f3)), (a4, .inl (cI, 18, .inl f4)), (a5, .inl (cI, 18, .inl f5)), (a6, .inl (cI, 6, .inl f6)), (a9, .inr (2, [.ref a10, .ref a11, .ref a12, .ref a13, .ref a14, .ref a15, .int g9_6, .int g9_7, .int g9_8, .int g9_9, w9_10, w9_11])), (a10, .inl (cI, 2, .inl f10)), (a11, .inl (cI, 36, .inl f11)), (a12, .inl (cI, 8, .inl f12)), (a13, .inl (cI, 18, .inl f13)), (a14, .inl (cI, 18, .inl f14)), (a15, .inl (cI, 6, .inl f15))] sz)) (va_Qv (fun (_ : Unit) => True) (fun _ t => va_P D vwCl [(a0, .inr (2, [.ref a1, .ref a2, .ref a3, .ref a4, .ref a5, .ref a6, .int res.1, .int res.2.1, .int res.2.2.1, .int res.2.2.2.1, w0_10, w0_11])), (a1, .inl (cI, 2, .inl res.2.2.2.2.1)), (a2, .inl (cI, 36, .inl res.2.2.2.2.2.1)), (a3, .inl (cI, 8, .inl res.2.2.2.2.2.2.1)), (a4, .inl (cI, 18, .inl res.2.2.2.2.2.2.2.1)), (a5, .inl (cI, 18, .inl res.2.2.2.2.2.2.2.2.1)), (a6, .inl (cI, 6, .inl res.2.2.2.2.2.2.2.2.2)), (a9, .inr (2, [.ref a10, .ref a11, .ref a12, .ref a13, .ref a14, .ref a15, .int g9_6, .int g9_7, .int g9_8, .int g9_9, w9_10, w9_11])), (a10, .inl (cI, 2, .inl f10)), (a11, .inl (cI, 36, .inl f11)), (a12, .inl (cI, 8, .inl f12)), (a13, .inl (cI, 18, .inl f13)), (a14, .inl (cI, 18, .inl f14)), (a15, .inl (cI, 6, .inl f15))] t.heap) (va_A [(a0, .inr (2, [.ref a1, .ref a2, .ref a3, .ref a4, .ref a5, .ref a6, .int g0_6, .int g0_7, .int g0_8, .int g0_9, w0_10, w0_11])), (a1, .inl (cI, 2, .inl f1)), (a2, .inl (cI, 36, .inl f2)), (a3, .inl (cI, 8, .inl f3)), (a4, .inl (cI, 18, .inl f4)), (a5, .inl (cI, 18, .inl f5)), (a6, .inl (cI, 6, .inl f6)), (a9, .inr (2, [.ref a10, .ref a11, .ref a12, .ref a13, .ref a14, .ref a15, .int g9_6, .int g9_7, .int g9_8, .int g9_9, w9_10, w9_11])), (a10, .inl (cI, 2, .inl f10)), (a11, .inl (cI, 36, .inl f11)), (a12, .inl (cI, 8, .inl f12)), (a13, .inl (cI, 18, .inl f13)), (a14, .inl (cI, 18, .inl f14)), (a15, .inl (cI, 6, .inl f15))] sz)) 0 0 (va_A [(a0, .inr (2, [.ref a1, .ref a2, .ref a3, .ref a4, .ref a5, .ref a6, .int g0_6, .int g0_7, .int g0_8, .int g0_9, w0_10, w0_11])), (a1, .inl (cI, 2, .inl f1)), (a2, .inl (cI, 36, .inl f2)), (a3, .inl (cI, 8, .inl f3)), (a4, .inl (cI, 18, .inl f4)), (a5, .inl (cI, 18, .inl f5)), (a6, .inl (cI, 6, .inl f6)), (a9, .inr (2, [.ref a10, .ref a11, .ref a12, .ref a13, .ref a14, .ref a15, .int g9_6, .int g9_7, .int g9_8, .int g9_9, w9_10, w9_11])), (a10, .inl (cI, 2, .inl f10)), (a11, .inl (cI, 36, .inl f11)), (a12, .inl (cI, 8, .inl f12)), (a13, .inl (cI, 18, .inl f13)), (a14, .inl (cI, 18, .inl f14)), (a15, .inl (cI, 6, .inl f15))] sz) := by
  refine Met.ofW (cc := cX2_copyFrom) (maxL := 2) (ret := none) (by decide) rfl ?_
  intro p e s m args below meth c s₁ B hml hv
  obtain ⟨rfl, hsz, hP, hD0, hKU⟩ := hv
  have hx := B.exec
  have hb := B.bytes
  have hr := B.returns
  have hts := atoms_spec (ws := wsX2_copyFrom) B.pre
  have hown : s.vm.findClass RX2 = some m.cls := findClass_of_methodNamed B.named
  have hlocks := B.notSynchronized
  have hK := hKU.1
  have hf_9 := hts (.fieldLink RX2 9 "ThinnedPots$Studio" "settings" "[I") (by decide +kernel)
  have hi_X2 : ∀ w ∈ u_ws RX2 TX2 12, w ∈ wsX2_copyFrom := by decide +kernel
  have hst_X4_copyRow := hts (.static yX4_copyRow) (by decide +kernel)
  have hin_X4 := hts (.initialized RX4) (by decide +kernel)
  have hf_19 := hts (.fieldLink RX2 19 "ThinnedPots$Studio" "drops" "[I") (by decide +kernel)
  have hf_22 := hts (.fieldLink RX2 22 "ThinnedPots$Studio" "thinnings" "[I") (by decide +kernel)
  have hf_25 := hts (.fieldLink RX2 25 "ThinnedPots$Studio" "wanted" "[I") (by decide +kernel)
  have hf_28 := hts (.fieldLink RX2 28 "ThinnedPots$Studio" "painted" "[I") (by decide +kernel)
  have hf_31 := hts (.fieldLink RX2 31 "ThinnedPots$Studio" "strokes" "[I") (by decide +kernel)
  have hf_34 := hts (.fieldLink RX2 34 "ThinnedPots$Studio" "dropsPutIn" "I") (by decide +kernel)
  have hf_38 := hts (.fieldLink RX2 38 "ThinnedPots$Studio" "dropsOnPanels" "I") (by decide +kernel)
  have hf_41 := hts (.fieldLink RX2 41 "ThinnedPots$Studio" "dropsRinsed" "I") (by decide +kernel)
  have hf_44 := hts (.fieldLink RX2 44 "ThinnedPots$Studio" "rinsesWithDrops" "I") (by decide +kernel)
  subst hsz
  have hD := hD0.self (sz := s.heap.size)
  generalize hAe : va_A [(a0, .inr (2, [.ref a1, .ref a2, .ref a3, .ref a4, .ref a5, .ref a6, .int g0_6, .int g0_7, .int g0_8, .int g0_9, w0_10, w0_11])), (a1, .inl (cI, 2, .inl f1)), (a2, .inl (cI, 36, .inl f2)), (a3, .inl (cI, 8, .inl f3)), (a4, .inl (cI, 18, .inl f4)), (a5, .inl (cI, 18, .inl f5)), (a6, .inl (cI, 6, .inl f6)), (a9, .inr (2, [.ref a10, .ref a11, .ref a12, .ref a13, .ref a14, .ref a15, .int g9_6, .int g9_7, .int g9_8, .int g9_9, w9_10, w9_11])), (a10, .inl (cI, 2, .inl f10)), (a11, .inl (cI, 36, .inl f11)), (a12, .inl (cI, 8, .inl f12)), (a13, .inl (cI, 18, .inl f13)), (a14, .inl (cI, 18, .inl f14)), (a15, .inl (cI, 6, .inl f15))] s.heap.size = A at hD ⊢
  have hA : ∀ q : Nat, s.heap.size ≤ q → A q := fun q h => by rw [← hAe]; exact Or.inr h
  have hP : va_P D vwCl [(a0, .inr (2, [.ref a1, .ref a2, .ref a3, .ref a4, .ref a5, .ref a6, .int g0_6, .int g0_7, .int g0_8, .int g0_9, w0_10, w0_11])), (a1, .inl (cI, 2, .inl f1)), (a2, .inl (cI, 36, .inl f2)), (a3, .inl (cI, 8, .inl f3)), (a4, .inl (cI, 18, .inl f4)), (a5, .inl (cI, 18, .inl f5)), (a6, .inl (cI, 6, .inl f6)), (a9, .inr (2, [.ref a10, .ref a11, .ref a12, .ref a13, .ref a14, .ref a15, .int g9_6, .int g9_7, .int g9_8, .int g9_9, w9_10, w9_11])), (a10, .inl (cI, 2, .inl f10)), (a11, .inl (cI, 36, .inl f11)), (a12, .inl (cI, 8, .inl f12)), (a13, .inl (cI, 18, .inl f13)), (a14, .inl (cI, 18, .inl f14)), (a15, .inl (cI, 6, .inl f15))] s.heap := hP
  generalize hHe : s.heap = H at hP ⊢
  have hS : va_S A s.heap H [] := by rw [hHe]; exact va_S.rf
  have hl := lv_entry ([.ref a0, .ref a9]) (n := 2) (Nat.le_of_ble_eq_true rfl)
  rw [lg_entry_eq]
  generalize (lg_sl ([.ref a0, .ref a9]) ++ List.replicate (2 - (lg_sl ([.ref a0, .ref a9])).length) Slot.unset).toArray = ls at hl ⊢
  have hl : lv_has ls 2 [(0, .ref a0), (1, .ref a9)] := hl
  unfold s_X2_copyFrom at hsp
  refine lv_aload_n hx hb dX2_copyFrom_0 rfl (lv_at hl 1 rfl) ?_
  refine lv_ifnonnull (tgt := 5) hx hb dX2_copyFrom_1 (by decide) ?_
  refine lv_aload_n hx hb dX2_copyFrom_5 rfl (lv_at hl 1 rfl) ?_
  refine va_get (D := D) (ci := 2) (v := .ref a10) (C := RX2) (T := TX2) (N := 12) hx hb hts hi_X2 hown hK hP 7 rfl rfl 0 (by decide) hf_9 (fun _ h9 => h9) rfl dX2_copyFrom_6 ?_
  refine lv_aload_n hx hb dX2_copyFrom_9 rfl (lv_at hl 0 rfl) ?_
  refine va_get (D := D) (ci := 2) (v := .ref a1) (C := RX2) (T := TX2) (N := 12) hx hb hts hi_X2 hown hK hP 0 rfl rfl 0 (by decide) hf_9 (fun _ h9 => h9) rfl dX2_copyFrom_10 ?_
  obtain ⟨r1, hcr1, hsp⟩ := clE hsp
  refine call_v (w1 := [(a10, .inl (cI, 2, .inl f10)), (a1, .inl (cI, 2, .inl r1))]) (ws' := [(a0, .inr (2, [.ref a1, .ref a2, .ref a3, .ref a4, .ref a5, .ref a6, .int g0_6, .int g0_7, .int g0_8, .int g0_9, w0_10, w0_11])), (a1, .inl (cI, 2, .inl r1)), (a2, .inl (cI, 36, .inl f2)), (a3, .inl (cI, 8, .inl f3)), (a4, .inl (cI, 18, .inl f4)), (a5, .inl (cI, 18, .inl f5)), (a6, .inl (cI, 6, .inl f6)), (a9, .inr (2, [.ref a10, .ref a11, .ref a12, .ref a13, .ref a14, .ref a15, .int g9_6, .int g9_7, .int g9_8, .int g9_9, w9_10, w9_11])), (a10, .inl (cI, 2, .inl f10)), (a11, .inl (cI, 36, .inl f11)), (a12, .inl (cI, 8, .inl f12)), (a13, .inl (cI, 18, .inl f13)), (a14, .inl (cI, 18, .inl f14)), (a15, .inl (cI, 6, .inl f15))]) (va_runSN (As := [.ref a10, .ref a1]) (rest := []) ⟨hx, hb, hml, hown, hts⟩ (k_X4_copyRow l D cI cZ cC cS H.size a10 a1 2 f10 2 f1 r1 hcr1) ⟨va_cnB 2 hts gX2_copyFrom_X4_copyRow_n53 rfl rfl rfl (mn_Studio_53 hKU.2.2) hin_X4 nd_X4_copyRow.2 ⟨Nat.le_of_ble_eq_true rfl, Nat.le_of_ble_eq_true rfl⟩, hst_X4_copyRow, trivial⟩ (PB.preS hKU hP hD [8, 1] rfl rfl) rfl rfl hl.1 rfl (lv_room (Nat.le_of_ble_eq_true rfl)) dX2_copyFrom_13 ⟨Nat.zero_le _, Nat.zero_le _⟩) hS hP hD hA [8, 1] rfl rfl (by first | (simp only [wset, List.set_cons_zero, List.set_cons_succ]; done) | rfl) rfl (fun H locs hP hD hS => ?_)
  refine lv_aload_n hx hb dX2_copyFrom_16 rfl (lv_at hl 1 rfl) ?_
  refine va_get (D := D) (ci := 2) (v := .ref a11) (C := RX2) (T := TX2) (N := 12) hx hb hts hi_X2 hown hK hP 7 rfl rfl 1 (by decide) hf_19 (fun _ h9 => h9) rfl dX2_copyFrom_17 ?_
  refine lv_aload_n hx hb dX2_copyFrom_20 rfl (lv_at hl 0 rfl) ?_
  refine va_get (D := D) (ci := 2) (v := .ref a2) (C := RX2) (T := TX2) (N := 12) hx hb hts hi_X2 hown hK hP 0 rfl rfl 1 (by decide) hf_19 (fun _ h9 => h9) rfl dX2_copyFrom_21 ?_
  obtain ⟨r2, hcr2, hsp⟩ := clE hsp
  refine call_v (w1 := [(a11, .inl (cI, 36, .inl f11)), (a2, .inl (cI, 36, .inl r2))]) (ws' := [(a0, .inr (2, [.ref a1, .ref a2, .ref a3, .ref a4, .ref a5, .ref a6, .int g0_6, .int g0_7, .int g0_8, .int g0_9, w0_10, w0_11])), (a1, .inl (cI, 2, .inl r1)), (a2, .inl (cI, 36, .inl r2)), (a3, .inl (cI, 8, .inl f3)), (a4, .inl (cI, 18, .inl f4)), (a5, .inl (cI, 18, .inl f5)), (a6, .inl (cI, 6, .inl f6)), (a9, .inr (2, [.ref a10, .ref a11, .ref a12, .ref a13, .ref a14, .ref a15, .int g9_6, .int g9_7, .int g9_8, .int g9_9, w9_10, w9_11])), (a10, .inl (cI, 2, .inl f10)), (a11, .inl (cI, 36, .inl f11)), (a12, .inl (cI, 8, .inl f12)), (a13, .inl (cI, 18, .inl f13)), (a14, .inl (cI, 18, .inl f14)), (a15, .inl (cI, 6, .inl f15))]) (va_runSN (As := [.ref a11, .ref a2]) (rest := []) ⟨hx, hb, hml, hown, hts⟩ (k_X4_copyRow l D cI cZ cC cS H.size a11 a2 36 f11 36 f2 r2 hcr2) ⟨va_cnB 2 hts gX2_copyFrom_X4_copyRow_n53 rfl rfl rfl (mn_Studio_53 hKU.2.2) hin_X4 nd_X4_copyRow.2 ⟨Nat.le_of_ble_eq_true rfl, Nat.le_of_ble_eq_true rfl⟩, hst_X4_copyRow, trivial⟩ (PB.preS hKU hP hD [9, 2] rfl rfl) rfl rfl hl.1 rfl (lv_room (Nat.le_of_ble_eq_true rfl)) dX2_copyFrom_24 ⟨Nat.zero_le _, Nat.zero_le _⟩) hS hP hD hA [9, 2] rfl rfl (by first | (simp only [wset, List.set_cons_zero, List.set_cons_succ]; done) | rfl) rfl (fun H locs hP hD hS => ?_)
  refine lv_aload_n hx hb dX2_copyFrom_27 rfl (lv_at hl 1 rfl) ?_
  refine va_get (D := D) (ci := 2) (v := .ref a12) (C := RX2) (T := TX2) (N := 12) hx hb hts hi_X2 hown hK hP 7 rfl rfl 2 (by decide) hf_22 (fun _ h9 => h9) rfl dX2_copyFrom_28 ?_
  refine lv_aload_n hx hb dX2_copyFrom_31 rfl (lv_at hl 0 rfl) ?_
  refine va_get (D := D) (ci := 2) (v := .ref a3) (C := RX2) (T := TX2) (N := 12) hx hb hts hi_X2 hown hK hP 0 rfl rfl 2 (by decide) hf_22 (fun _ h9 => h9) rfl dX2_copyFrom_32 ?_
  obtain ⟨r3, hcr3, hsp⟩ := clE hsp
  refine call_v (w1 := [(a12, .inl (cI, 8, .inl f12)), (a3, .inl (cI, 8, .inl r3))]) (ws' := [(a0, .inr (2, [.ref a1, .ref a2, .ref a3, .ref a4, .ref a5, .ref a6, .int g0_6, .int g0_7, .int g0_8, .int g0_9, w0_10, w0_11])), (a1, .inl (cI, 2, .inl r1)), (a2, .inl (cI, 36, .inl r2)), (a3, .inl (cI, 8, .inl r3)), (a4, .inl (cI, 18, .inl f4)), (a5, .inl (cI, 18, .inl f5)), (a6, .inl (cI, 6, .inl f6)), (a9, .inr (2, [.ref a10, .ref a11, .ref a12, .ref a13, .ref a14, .ref a15, .int g9_6, .int g9_7, .int g9_8, .int g9_9, w9_10, w9_11])), (a10, .inl (cI, 2, .inl f10)), (a11, .inl (cI, 36, .inl f11)), (a12, .inl (cI, 8, .inl f12)), (a13, .inl (cI, 18, .inl f13)), (a14, .inl (cI, 18, .inl f14)), (a15, .inl (cI, 6, .inl f15))]) (va_runSN (As := [.ref a12, .ref a3]) (rest := []) ⟨hx, hb, hml, hown, hts⟩ (k_X4_copyRow l D cI cZ cC cS H.size a12 a3 8 f12 8 f3 r3 hcr3) ⟨va_cnB 2 hts gX2_copyFrom_X4_copyRow_n53 rfl rfl rfl (mn_Studio_53 hKU.2.2) hin_X4 nd_X4_copyRow.2 ⟨Nat.le_of_ble_eq_true rfl, Nat.le_of_ble_eq_true rfl⟩, hst_X4_copyRow, trivial⟩ (PB.preS hKU hP hD [10, 3] rfl rfl) rfl rfl hl.1 rfl (lv_room (Nat.le_of_ble_eq_true rfl)) dX2_copyFrom_35 ⟨Nat.zero_le _, Nat.zero_le _⟩) hS hP hD hA [10, 3] rfl rfl (by first | (simp only [wset, List.set_cons_zero, List.set_cons_succ]; done) | rfl) rfl (fun H locs hP hD hS => ?_)
  refine lv_aload_n hx hb dX2_copyFrom_38 rfl (lv_at hl 1 rfl) ?_
  refine va_get (D := D) (ci := 2) (v := .ref a13) (C := RX2) (T := TX2) (N := 12) hx hb hts hi_X2 hown hK hP 7 rfl rfl 3 (by decide) hf_25 (fun _ h9 => h9) rfl dX2_copyFrom_39 ?_
  refine lv_aload_n hx hb dX2_copyFrom_42 rfl (lv_at hl 0 rfl) ?_
  refine va_get (D := D) (ci := 2) (v := .ref a4) (C := RX2) (T := TX2) (N := 12) hx hb hts hi_X2 hown hK hP 0 rfl rfl 3 (by decide) hf_25 (fun _ h9 => h9) rfl dX2_copyFrom_43 ?_
  obtain ⟨r4, hcr4, hsp⟩ := clE hsp
  refine call_v (w1 := [(a13, .inl (cI, 18, .inl f13)), (a4, .inl (cI, 18, .inl r4))]) (ws' := [(a0, .inr (2, [.ref a1, .ref a2, .ref a3, .ref a4, .ref a5, .ref a6, .int g0_6, .int g0_7, .int g0_8, .int g0_9, w0_10, w0_11])), (a1, .inl (cI, 2, .inl r1)), (a2, .inl (cI, 36, .inl r2)), (a3, .inl (cI, 8, .inl r3)), (a4, .inl (cI, 18, .inl r4)), (a5, .inl (cI, 18, .inl f5)), (a6, .inl (cI, 6, .inl f6)), (a9, .inr (2, [.ref a10, .ref a11, .ref a12, .ref a13, .ref a14, .ref a15, .int g9_6, .int g9_7, .int g9_8, .int g9_9, w9_10, w9_11])), (a10, .inl (cI, 2, .inl f10)), (a11, .inl (cI, 36, .inl f11)), (a12, .inl (cI, 8, .inl f12)), (a13, .inl (cI, 18, .inl f13)), (a14, .inl (cI, 18, .inl f14)), (a15, .inl (cI, 6, .inl f15))]) (va_runSN (As := [.ref a13, .ref a4]) (rest := []) ⟨hx, hb, hml, hown, hts⟩ (k_X4_copyRow l D cI cZ cC cS H.size a13 a4 18 f13 18 f4 r4 hcr4) ⟨va_cnB 2 hts gX2_copyFrom_X4_copyRow_n53 rfl rfl rfl (mn_Studio_53 hKU.2.2) hin_X4 nd_X4_copyRow.2 ⟨Nat.le_of_ble_eq_true rfl, Nat.le_of_ble_eq_true rfl⟩, hst_X4_copyRow, trivial⟩ (PB.preS hKU hP hD [11, 4] rfl rfl) rfl rfl hl.1 rfl (lv_room (Nat.le_of_ble_eq_true rfl)) dX2_copyFrom_46 ⟨Nat.zero_le _, Nat.zero_le _⟩) hS hP hD hA [11, 4] rfl rfl (by first | (simp only [wset, List.set_cons_zero, List.set_cons_succ]; done) | rfl) rfl (fun H locs hP hD hS => ?_)
  refine lv_aload_n hx hb dX2_copyFrom_49 rfl (lv_at hl 1 rfl) ?_
  refine va_get (D := D) (ci := 2) (v := .ref a14) (C := RX2) (T := TX2) (N := 12) hx hb hts hi_X2 hown hK hP 7 rfl rfl 4 (by decide) hf_28 (fun _ h9 => h9) rfl dX2_copyFrom_50 ?_
  refine lv_aload_n hx hb dX2_copyFrom_53 rfl (lv_at hl 0 rfl) ?_
  refine va_get (D := D) (ci := 2) (v := .ref a5) (C := RX2) (T := TX2) (N := 12) hx hb hts hi_X2 hown hK hP 0 rfl rfl 4 (by decide) hf_28 (fun _ h9 => h9) rfl dX2_copyFrom_54 ?_
  obtain ⟨r5, hcr5, hsp⟩ := clE hsp
  refine call_v (w1 := [(a14, .inl (cI, 18, .inl f14)), (a5, .inl (cI, 18, .inl r5))]) (ws' := [(a0, .inr (2, [.ref a1, .ref a2, .ref a3, .ref a4, .ref a5, .ref a6, .int g0_6, .int g0_7, .int g0_8, .int g0_9, w0_10, w0_11])), (a1, .inl (cI, 2, .inl r1)), (a2, .inl (cI, 36, .inl r2)), (a3, .inl (cI, 8, .inl r3)), (a4, .inl (cI, 18, .inl r4)), (a5, .inl (cI, 18, .inl r5)), (a6, .inl (cI, 6, .inl f6)), (a9, .inr (2, [.ref a10, .ref a11, .ref a12, .ref a13, .ref a14, .ref a15, .int g9_6, .int g9_7, .int g9_8, .int g9_9, w9_10, w9_11])), (a10, .inl (cI, 2, .inl f10)), (a11, .inl (cI, 36, .inl f11)), (a12, .inl (cI, 8, .inl f12)), (a13, .inl (cI, 18, .inl f13)), (a14, .inl (cI, 18, .inl f14)), (a15, .inl (cI, 6, .inl f15))]) (va_runSN (As := [.ref a14, .ref a5]) (rest := []) ⟨hx, hb, hml, hown, hts⟩ (k_X4_copyRow l D cI cZ cC cS H.size a14 a5 18 f14 18 f5 r5 hcr5) ⟨va_cnB 2 hts gX2_copyFrom_X4_copyRow_n53 rfl rfl rfl (mn_Studio_53 hKU.2.2) hin_X4 nd_X4_copyRow.2 ⟨Nat.le_of_ble_eq_true rfl, Nat.le_of_ble_eq_true rfl⟩, hst_X4_copyRow, trivial⟩ (PB.preS hKU hP hD [12, 5] rfl rfl) rfl rfl hl.1 rfl (lv_room (Nat.le_of_ble_eq_true rfl)) dX2_copyFrom_57 ⟨Nat.zero_le _, Nat.zero_le _⟩) hS hP hD hA [12, 5] rfl rfl (by first | (simp only [wset, List.set_cons_zero, List.set_cons_succ]; done) | rfl) rfl (fun H locs hP hD hS => ?_)
  refine lv_aload_n hx hb dX2_copyFrom_60 rfl (lv_at hl 1 rfl) ?_
  refine va_get (D := D) (ci := 2) (v := .ref a15) (C := RX2) (T := TX2) (N := 12) hx hb hts hi_X2 hown hK hP 7 rfl rfl 5 (by decide) hf_31 (fun _ h9 => h9) rfl dX2_copyFrom_61 ?_
  refine lv_aload_n hx hb dX2_copyFrom_64 rfl (lv_at hl 0 rfl) ?_
  refine va_get (D := D) (ci := 2) (v := .ref a6) (C := RX2) (T := TX2) (N := 12) hx hb hts hi_X2 hown hK hP 0 rfl rfl 5 (by decide) hf_31 (fun _ h9 => h9) rfl dX2_copyFrom_65 ?_
  obtain ⟨r6, hcr6, hsp⟩ := clE hsp
  refine call_v (w1 := [(a15, .inl (cI, 6, .inl f15)), (a6, .inl (cI, 6, .inl r6))]) (ws' := [(a0, .inr (2, [.ref a1, .ref a2, .ref a3, .ref a4, .ref a5, .ref a6, .int g0_6, .int g0_7, .int g0_8, .int g0_9, w0_10, w0_11])), (a1, .inl (cI, 2, .inl r1)), (a2, .inl (cI, 36, .inl r2)), (a3, .inl (cI, 8, .inl r3)), (a4, .inl (cI, 18, .inl r4)), (a5, .inl (cI, 18, .inl r5)), (a6, .inl (cI, 6, .inl r6)), (a9, .inr (2, [.ref a10, .ref a11, .ref a12, .ref a13, .ref a14, .ref a15, .int g9_6, .int g9_7, .int g9_8, .int g9_9, w9_10, w9_11])), (a10, .inl (cI, 2, .inl f10)), (a11, .inl (cI, 36, .inl f11)), (a12, .inl (cI, 8, .inl f12)), (a13, .inl (cI, 18, .inl f13)), (a14, .inl (cI, 18, .inl f14)), (a15, .inl (cI, 6, .inl f15))]) (va_runSN (As := [.ref a15, .ref a6]) (rest := []) ⟨hx, hb, hml, hown, hts⟩ (k_X4_copyRow l D cI cZ cC cS H.size a15 a6 6 f15 6 f6 r6 hcr6) ⟨va_cnB 2 hts gX2_copyFrom_X4_copyRow_n53 rfl rfl rfl (mn_Studio_53 hKU.2.2) hin_X4 nd_X4_copyRow.2 ⟨Nat.le_of_ble_eq_true rfl, Nat.le_of_ble_eq_true rfl⟩, hst_X4_copyRow, trivial⟩ (PB.preS hKU hP hD [13, 6] rfl rfl) rfl rfl hl.1 rfl (lv_room (Nat.le_of_ble_eq_true rfl)) dX2_copyFrom_68 ⟨Nat.zero_le _, Nat.zero_le _⟩) hS hP hD hA [13, 6] rfl rfl (by first | (simp only [wset, List.set_cons_zero, List.set_cons_succ]; done) | rfl) rfl (fun H locs hP hD hS => ?_)
  refine lv_aload_n hx hb dX2_copyFrom_71 rfl (lv_at hl 0 rfl) ?_
  refine lv_aload_n hx hb dX2_copyFrom_72 rfl (lv_at hl 1 rfl) ?_
  refine va_get (D := D) (ci := 2) (v := .int g9_6) (C := RX2) (T := TX2) (N := 12) hx hb hts hi_X2 hown hK hP 7 rfl rfl 6 (by decide) hf_34 (fun _ h9 => h9) rfl dX2_copyFrom_73 ?_
  refine va_put (D := D) (ci := 2) (v := .int g9_6) (ty := .int) (C := RX2) (T := TX2) (N := 12) hx hb hts hi_X2 tyX2 tyX2_ok nmX2 hown hK hP hD hS 0 rfl rfl 6 (by decide) hf_34 (fun _ h9 => h9) rfl (by decide +kernel) rfl rfl (Nat.le_of_ble_eq_true rfl) dX2_copyFrom_76 (fun H locs hP hD hS => ?_)
  have hP : va_P D vwCl [(a0, .inr (2, [.ref a1, .ref a2, .ref a3, .ref a4, .ref a5, .ref a6, .int g9_6, .int g0_7, .int g0_8, .int g0_9, w0_10, w0_11])), (a1, .inl (cI, 2, .inl r1)), (a2, .inl (cI, 36, .inl r2)), (a3, .inl (cI, 8, .inl r3)), (a4, .inl (cI, 18, .inl r4)), (a5, .inl (cI, 18, .inl r5)), (a6, .inl (cI, 6, .inl r6)), (a9, .inr (2, [.ref a10, .ref a11, .ref a12, .ref a13, .ref a14, .ref a15, .int g9_6, .int g9_7, .int g9_8, .int g9_9, w9_10, w9_11])), (a10, .inl (cI, 2, .inl f10)), (a11, .inl (cI, 36, .inl f11)), (a12, .inl (cI, 8, .inl f12)), (a13, .inl (cI, 18, .inl f13)), (a14, .inl (cI, 18, .inl f14)), (a15, .inl (cI, 6, .inl f15))] H := hP
  have hD : va_D A [(a0, .inr (2, [.ref a1, .ref a2, .ref a3, .ref a4, .ref a5, .ref a6, .int g9_6, .int g0_7, .int g0_8, .int g0_9, w0_10, w0_11])), (a1, .inl (cI, 2, .inl r1)), (a2, .inl (cI, 36, .inl r2)), (a3, .inl (cI, 8, .inl r3)), (a4, .inl (cI, 18, .inl r4)), (a5, .inl (cI, 18, .inl r5)), (a6, .inl (cI, 6, .inl r6)), (a9, .inr (2, [.ref a10, .ref a11, .ref a12, .ref a13, .ref a14, .ref a15, .int g9_6, .int g9_7, .int g9_8, .int g9_9, w9_10, w9_11])), (a10, .inl (cI, 2, .inl f10)), (a11, .inl (cI, 36, .inl f11)), (a12, .inl (cI, 8, .inl f12)), (a13, .inl (cI, 18, .inl f13)), (a14, .inl (cI, 18, .inl f14)), (a15, .inl (cI, 6, .inl f15))] := hD
  refine lv_aload_n hx hb dX2_copyFrom_79 rfl (lv_at hl 0 rfl) ?_
  refine lv_aload_n hx hb dX2_copyFrom_80 rfl (lv_at hl 1 rfl) ?_
  refine va_get (D := D) (ci := 2) (v := .int g9_7) (C := RX2) (T := TX2) (N := 12) hx hb hts hi_X2 hown hK hP 7 rfl rfl 7 (by decide) hf_38 (fun _ h9 => h9) rfl dX2_copyFrom_81 ?_
  refine va_put (D := D) (ci := 2) (v := .int g9_7) (ty := .int) (C := RX2) (T := TX2) (N := 12) hx hb hts hi_X2 tyX2 tyX2_ok nmX2 hown hK hP hD hS 0 rfl rfl 7 (by decide) hf_38 (fun _ h9 => h9) rfl (by decide +kernel) rfl rfl (Nat.le_of_ble_eq_true rfl) dX2_copyFrom_84 (fun H locs hP hD hS => ?_)
  have hP : va_P D vwCl [(a0, .inr (2, [.ref a1, .ref a2, .ref a3, .ref a4, .ref a5, .ref a6, .int g9_6, .int g9_7, .int g0_8, .int g0_9, w0_10, w0_11])), (a1, .inl (cI, 2, .inl r1)), (a2, .inl (cI, 36, .inl r2)), (a3, .inl (cI, 8, .inl r3)), (a4, .inl (cI, 18, .inl r4)), (a5, .inl (cI, 18, .inl r5)), (a6, .inl (cI, 6, .inl r6)), (a9, .inr (2, [.ref a10, .ref a11, .ref a12, .ref a13, .ref a14, .ref a15, .int g9_6, .int g9_7, .int g9_8, .int g9_9, w9_10, w9_11])), (a10, .inl (cI, 2, .inl f10)), (a11, .inl (cI, 36, .inl f11)), (a12, .inl (cI, 8, .inl f12)), (a13, .inl (cI, 18, .inl f13)), (a14, .inl (cI, 18, .inl f14)), (a15, .inl (cI, 6, .inl f15))] H := hP
  have hD : va_D A [(a0, .inr (2, [.ref a1, .ref a2, .ref a3, .ref a4, .ref a5, .ref a6, .int g9_6, .int g9_7, .int g0_8, .int g0_9, w0_10, w0_11])), (a1, .inl (cI, 2, .inl r1)), (a2, .inl (cI, 36, .inl r2)), (a3, .inl (cI, 8, .inl r3)), (a4, .inl (cI, 18, .inl r4)), (a5, .inl (cI, 18, .inl r5)), (a6, .inl (cI, 6, .inl r6)), (a9, .inr (2, [.ref a10, .ref a11, .ref a12, .ref a13, .ref a14, .ref a15, .int g9_6, .int g9_7, .int g9_8, .int g9_9, w9_10, w9_11])), (a10, .inl (cI, 2, .inl f10)), (a11, .inl (cI, 36, .inl f11)), (a12, .inl (cI, 8, .inl f12)), (a13, .inl (cI, 18, .inl f13)), (a14, .inl (cI, 18, .inl f14)), (a15, .inl (cI, 6, .inl f15))] := hD
  refine lv_aload_n hx hb dX2_copyFrom_87 rfl (lv_at hl 0 rfl) ?_
  refine lv_aload_n hx hb dX2_copyFrom_88 rfl (lv_at hl 1 rfl) ?_
  refine va_get (D := D) (ci := 2) (v := .int g9_8) (C := RX2) (T := TX2) (N := 12) hx hb hts hi_X2 hown hK hP 7 rfl rfl 8 (by decide) hf_41 (fun _ h9 => h9) rfl dX2_copyFrom_89 ?_
  refine va_put (D := D) (ci := 2) (v := .int g9_8) (ty := .int) (C := RX2) (T := TX2) (N := 12) hx hb hts hi_X2 tyX2 tyX2_ok nmX2 hown hK hP hD hS 0 rfl rfl 8 (by decide) hf_41 (fun _ h9 => h9) rfl (by decide +kernel) rfl rfl (Nat.le_of_ble_eq_true rfl) dX2_copyFrom_92 (fun H locs hP hD hS => ?_)
  have hP : va_P D vwCl [(a0, .inr (2, [.ref a1, .ref a2, .ref a3, .ref a4, .ref a5, .ref a6, .int g9_6, .int g9_7, .int g9_8, .int g0_9, w0_10, w0_11])), (a1, .inl (cI, 2, .inl r1)), (a2, .inl (cI, 36, .inl r2)), (a3, .inl (cI, 8, .inl r3)), (a4, .inl (cI, 18, .inl r4)), (a5, .inl (cI, 18, .inl r5)), (a6, .inl (cI, 6, .inl r6)), (a9, .inr (2, [.ref a10, .ref a11, .ref a12, .ref a13, .ref a14, .ref a15, .int g9_6, .int g9_7, .int g9_8, .int g9_9, w9_10, w9_11])), (a10, .inl (cI, 2, .inl f10)), (a11, .inl (cI, 36, .inl f11)), (a12, .inl (cI, 8, .inl f12)), (a13, .inl (cI, 18, .inl f13)), (a14, .inl (cI, 18, .inl f14)), (a15, .inl (cI, 6, .inl f15))] H := hP
  have hD : va_D A [(a0, .inr (2, [.ref a1, .ref a2, .ref a3, .ref a4, .ref a5, .ref a6, .int g9_6, .int g9_7, .int g9_8, .int g0_9, w0_10, w0_11])), (a1, .inl (cI, 2, .inl r1)), (a2, .inl (cI, 36, .inl r2)), (a3, .inl (cI, 8, .inl r3)), (a4, .inl (cI, 18, .inl r4)), (a5, .inl (cI, 18, .inl r5)), (a6, .inl (cI, 6, .inl r6)), (a9, .inr (2, [.ref a10, .ref a11, .ref a12, .ref a13, .ref a14, .ref a15, .int g9_6, .int g9_7, .int g9_8, .int g9_9, w9_10, w9_11])), (a10, .inl (cI, 2, .inl f10)), (a11, .inl (cI, 36, .inl f11)), (a12, .inl (cI, 8, .inl f12)), (a13, .inl (cI, 18, .inl f13)), (a14, .inl (cI, 18, .inl f14)), (a15, .inl (cI, 6, .inl f15))] := hD
  refine lv_aload_n hx hb dX2_copyFrom_95 rfl (lv_at hl 0 rfl) ?_
  refine lv_aload_n hx hb dX2_copyFrom_96 rfl (lv_at hl 1 rfl) ?_
  refine va_get (D := D) (ci := 2) (v := .int g9_9) (C := RX2) (T := TX2) (N := 12) hx hb hts hi_X2 hown hK hP 7 rfl rfl 9 (by decide) hf_44 (fun _ h9 => h9) rfl dX2_copyFrom_97 ?_
  refine va_put (D := D) (ci := 2) (v := .int g9_9) (ty := .int) (C := RX2) (T := TX2) (N := 12) hx hb hts hi_X2 tyX2 tyX2_ok nmX2 hown hK hP hD hS 0 rfl rfl 9 (by decide) hf_44 (fun _ h9 => h9) rfl (by decide +kernel) rfl rfl (Nat.le_of_ble_eq_true rfl) dX2_copyFrom_100 (fun H locs hP hD hS => ?_)
  have hP : va_P D vwCl [(a0, .inr (2, [.ref a1, .ref a2, .ref a3, .ref a4, .ref a5, .ref a6, .int g9_6, .int g9_7, .int g9_8, .int g9_9, w0_10, w0_11])), (a1, .inl (cI, 2, .inl r1)), (a2, .inl (cI, 36, .inl r2)), (a3, .inl (cI, 8, .inl r3)), (a4, .inl (cI, 18, .inl r4)), (a5, .inl (cI, 18, .inl r5)), (a6, .inl (cI, 6, .inl r6)), (a9, .inr (2, [.ref a10, .ref a11, .ref a12, .ref a13, .ref a14, .ref a15, .int g9_6, .int g9_7, .int g9_8, .int g9_9, w9_10, w9_11])), (a10, .inl (cI, 2, .inl f10)), (a11, .inl (cI, 36, .inl f11)), (a12, .inl (cI, 8, .inl f12)), (a13, .inl (cI, 18, .inl f13)), (a14, .inl (cI, 18, .inl f14)), (a15, .inl (cI, 6, .inl f15))] H := hP
  have hD : va_D A [(a0, .inr (2, [.ref a1, .ref a2, .ref a3, .ref a4, .ref a5, .ref a6, .int g9_6, .int g9_7, .int g9_8, .int g9_9, w0_10, w0_11])), (a1, .inl (cI, 2, .inl r1)), (a2, .inl (cI, 36, .inl r2)), (a3, .inl (cI, 8, .inl r3)), (a4, .inl (cI, 18, .inl r4)), (a5, .inl (cI, 18, .inl r5)), (a6, .inl (cI, 6, .inl r6)), (a9, .inr (2, [.ref a10, .ref a11, .ref a12, .ref a13, .ref a14, .ref a15, .int g9_6, .int g9_7, .int g9_8, .int g9_9, w9_10, w9_11])), (a10, .inl (cI, 2, .inl f10)), (a11, .inl (cI, 36, .inl f11)), (a12, .inl (cI, 8, .inl f12)), (a13, .inl (cI, 18, .inl f13)), (a14, .inl (cI, 18, .inl f14)), (a15, .inl (cI, 6, .inl f15))] := hD
  have hres := Option.some.inj hsp
  subst hres
  exact W.vret hx hb hr (fun t ht hW => ⟨⟨(), rfl, trivial, P_at ht hP⟩, hS.F ht⟩) hS.2.2 dX2_copyFrom_103

theorem nd_X4_remainder : yX4_remainder.cls = RX4 ∧ yX4_remainder.cls ≠ "java/lang/invoke/MethodHandle" ∧ yX4_remainder.cls ≠ "java/lang/invoke/VarHandle" ∧ (parseMethodDescriptor yX4_remainder.desc).map (fun d => d.parameters.length) = some 2 := by decide +kernel
set_option maxHeartbeats 8000000 in
set_option maxRecDepth 100000 in
theorem k_X4_remainder (l : Launch) (D : va_G) (cI cZ cC cS : ClassId) (sz : Nat) (u0 : Int32) (u1 : Int32) (res : Int32) (hsp : s_X4_remainder u0 u1 = some res) : Met l yX4_remainder wsX4_remainder ({ frames := 0, cells := 0, slots := 0, locals := 0 }) (va_Pc [.int u0, .int u1] (PB D cI cZ cC cS [] sz)) (va_Qi (fun r (_ : Unit) => r = res) (fun _ t => va_P D vwCl [] t.heap) (va_A [] sz)) 0 0 (va_A [] sz) := by
  refine Met.ofW (cc := cX4_remainder) (maxL := 2) (ret := (some .int)) (by decide) rfl ?_
  intro p e s m args below meth c s₁ B hml hv
  obtain ⟨rfl, hsz, hP, hD0, hKU⟩ := hv
  have hx := B.exec
  have hb := B.bytes
  have hr := B.returns
  have hts := atoms_spec (ws := wsX4_remainder) B.pre
  have hown : s.vm.findClass RX4 = some m.cls := findClass_of_methodNamed B.named
  have hlocks := B.notSynchronized
  have hK := hKU.1
  subst hsz
  have hD := hD0.self (sz := s.heap.size)
  generalize hAe : va_A [] s.heap.size = A at hD ⊢
  have hA : ∀ q : Nat, s.heap.size ≤ q → A q := fun q h => by rw [← hAe]; exact Or.inr h
  have hP : va_P D vwCl [] s.heap := hP
  generalize hHe : s.heap = H at hP ⊢
  have hS : va_S A s.heap H [] := by rw [hHe]; exact va_S.rf
  have hl := lv_entry ([.int u0, .int u1]) (n := 2) (Nat.le_of_ble_eq_true rfl)
  rw [lg_entry_eq]
  generalize (lg_sl ([.int u0, .int u1]) ++ List.replicate (2 - (lg_sl ([.int u0, .int u1])).length) Slot.unset).toArray = ls at hl ⊢
  have hl : lv_has ls 2 [(0, .int u0), (1, .int u1)] := hl
  unfold s_X4_remainder at hsp
  refine lv_iload_n hx hb dX4_remainder_0 rfl (lv_at hl 1 rfl) ?_
  refine lv_if_gt (tgt := 8) hx hb dX4_remainder_1 (by decide) (fun c1 => ?_) (fun c1 => ?_)
  · have hsp := itT hsp c1
    refine lv_iload_n hx hb dX4_remainder_8 rfl (lv_at hl 0 rfl) ?_
    refine lv_iload_n hx hb dX4_remainder_9 rfl (lv_at hl 1 rfl) ?_
    obtain ⟨x2, ex2, hnx2, hsp⟩ := rmdE hsp
    refine lv_irem hx hb dX4_remainder_10 hnx2 ?_
    refine r_top ex2 ?_
    have hres := Option.some.inj hsp
    subst hres
    exact W.iret (v := x2) hx hb hr (fun t ht hW => ⟨⟨x2, (), rfl, rfl, P_at ht hP⟩, hS.F ht⟩) hS.2.2 dX4_remainder_11
  have hsp := itF hsp c1
  refine lv_iconst (v := 0) hx hb dX4_remainder_4 (by decide) ?_
  refine lv_goto (tgt := 11) hx hb dX4_remainder_5 (by decide) ?_
  have hres := Option.some.inj hsp
  subst hres
  exact W.iret (v := 0) hx hb hr (fun t ht hW => ⟨⟨0, (), rfl, rfl, P_at ht hP⟩, hS.F ht⟩) hS.2.2 dX4_remainder_11

theorem nd_X2_kindWithMostLeftOver : yX2_kindWithMostLeftOver.cls = RX2 ∧ yX2_kindWithMostLeftOver.cls ≠ "java/lang/invoke/MethodHandle" ∧ yX2_kindWithMostLeftOver.cls ≠ "java/lang/invoke/VarHandle" ∧ (parseMethodDescriptor yX2_kindWithMostLeftOver.desc).map (fun d => d.parameters.length) = some 0 := by decide +kernel
set_option maxHeartbeats 8000000 in
set_option maxRecDepth 100000 in
theorem k_X2_kindWithMostLeftOver (l : Launch) (D : va_G) (cI cZ cC cS : ClassId) (sz : Nat) (a0 a8 : Nat) (w0_0 : Value) (w0_1 : Value) (w0_2 : Value) (w0_3 : Value) (w0_4 : Value) (w0_5 : Value) (w0_6 : Value) (w0_7 : Value) (w0_8 : Value) (w0_9 : Value) (w0_10 : Value) (f8 : Nat → Int32) (res : Int32) (hsp : s_X2_kindWithMostLeftOver f8 = some res) : Met l yX2_kindWithMostLeftOver wsX2_kindWithMostLeftOver ({ frames := 1, cells := 0, slots := 0, locals := 21 }) (va_Pc [.ref a0] (PB D cI cZ cC cS [(a0, .inr (2, [w0_0, w0_1, w0_2, w0_3, w0_4, w0_5, w0_6, w0_7, w0_8, w0_9, w0_10, .ref a8])), (a8, .inl (cI, 4, .inl f8))] sz)) (va_Qi (fun r (_ : Unit) => r = res) (fun _ t => va_P D vwCl [(a0, .inr (2, [w0_0, w0_1, w0_2, w0_3, w0_4, w0_5, w0_6, w0_7, w0_8, w0_9, w0_10, .ref a8])), (a8, .inl (cI, 4, .inl f8))] t.heap) (va_A [(a0, .inr (2, [w0_0, w0_1, w0_2, w0_3, w0_4, w0_5, w0_6, w0_7, w0_8, w0_9, w0_10, .ref a8])), (a8, .inl (cI, 4, .inl f8))] sz)) 0 0 (va_A [(a0, .inr (2, [w0_0, w0_1, w0_2, w0_3, w0_4, w0_5, w0_6, w0_7, w0_8, w0_9, w0_10, .ref a8])), (a8, .inl (cI, 4, .inl f8))] sz) := by
  refine Met.ofW (cc := cX2_kindWithMostLeftOver) (maxL := 3) (ret := (some .int)) (by decide) rfl ?_
  intro p e s m args below meth c s₁ B hml hv
  obtain ⟨rfl, hsz, hP, hD0, hKU⟩ := hv
  have hx := B.exec
  have hb := B.bytes
  have hr := B.returns
  have hts := atoms_spec (ws := wsX2_kindWithMostLeftOver) B.pre
  have hown : s.vm.findClass RX2 = some m.cls := findClass_of_methodNamed B.named
  have hlocks := B.notSynchronized
  have hK := hKU.1
  have hf_50 := hts (.fieldLink RX2 50 "ThinnedPots$Studio" "leftOver" "[I") (by decide +kernel)
  have hi_X2 : ∀ w ∈ u_ws RX2 TX2 12, w ∈ wsX2_kindWithMostLeftOver := by decide +kernel
  have hst_X4_at := hts (.static yX4_at) (by decide +kernel)
  have hin_X4 := hts (.initialized RX4) (by decide +kernel)
  subst hsz
  have hD := hD0.self (sz := s.heap.size)
  generalize hAe : va_A [(a0, .inr (2, [w0_0, w0_1, w0_2, w0_3, w0_4, w0_5, w0_6, w0_7, w0_8, w0_9, w0_10, .ref a8])), (a8, .inl (cI, 4, .inl f8))] s.heap.size = A at hD ⊢
  have hA : ∀ q : Nat, s.heap.size ≤ q → A q := fun q h => by rw [← hAe]; exact Or.inr h
  have hP : va_P D vwCl [(a0, .inr (2, [w0_0, w0_1, w0_2, w0_3, w0_4, w0_5, w0_6, w0_7, w0_8, w0_9, w0_10, .ref a8])), (a8, .inl (cI, 4, .inl f8))] s.heap := hP
  generalize hHe : s.heap = H at hP ⊢
  have hS : va_S A s.heap H [] := by rw [hHe]; exact va_S.rf
  have hl := lv_entry ([.ref a0]) (n := 3) (Nat.le_of_ble_eq_true rfl)
  rw [lg_entry_eq]
  generalize (lg_sl ([.ref a0]) ++ List.replicate (3 - (lg_sl ([.ref a0])).length) Slot.unset).toArray = ls at hl ⊢
  have hl : lv_has ls 3 [(0, .ref a0)] := hl
  unfold s_X2_kindWithMostLeftOver at hsp
  refine lv_iconst (v := 0) hx hb dX2_kindWithMostLeftOver_0 (by decide) ?_
  refine lv_istore_n (lv' := [(1, .int 0), (0, .ref a0)]) hx hb dX2_kindWithMostLeftOver_1 rfl hl (by decide) rfl (fun ls hl => ?_)
  refine lv_iconst (v := 1) hx hb dX2_kindWithMostLeftOver_2 (by decide) ?_
  refine lv_istore_n (lv' := [(2, .int 1), (1, .int 0), (0, .ref a0)]) hx hb dX2_kindWithMostLeftOver_3 rfl hl (by decide) rfl (fun ls hl => ?_)
  refine ex_rule (D := D) (K := s_X2_kindWithMostLeftOver_X1) (P := fun (t1 : Int32) => [(a0, .inr (2, [w0_0, w0_1, w0_2, w0_3, w0_4, w0_5, w0_6, w0_7, w0_8, w0_9, w0_10, .ref a8])), (a8, .inl (cI, 4, .inl f8))]) (L := fun (t1 : Int32) => [(1, .int t1)]) (nL := 3) (pcx := 36) (res := res) (A := A) (H0 := s.heap) ?_ (fun hx1 => ?_)
  · intro t1 H locs hsp hP hD hS ls hl
    obtain ⟨x3, rfl⟩ : ∃ z, z = t1 := ⟨_, rfl⟩
    unfold s_X2_kindWithMostLeftOver_X1 at hsp; try dsimp only at hsp
    have hP : va_P D vwCl [(a0, .inr (2, [w0_0, w0_1, w0_2, w0_3, w0_4, w0_5, w0_6, w0_7, w0_8, w0_9, w0_10, .ref a8])), (a8, .inl (cI, 4, .inl f8))] H := hP
    have hD : va_D A [(a0, .inr (2, [w0_0, w0_1, w0_2, w0_3, w0_4, w0_5, w0_6, w0_7, w0_8, w0_9, w0_10, .ref a8])), (a8, .inl (cI, 4, .inl f8))] := hD
    have hl : lv_has ls 3 [(1, .int x3)] := hl
    refine lv_iload_n hx hb dX2_kindWithMostLeftOver_36 rfl (lv_at hl 0 rfl) ?_
    have hres := Option.some.inj hsp
    subst hres
    exact W.iret (v := x3) hx hb hr (fun t ht hW => ⟨⟨x3, (), rfl, rfl, P_at ht hP⟩, hS.F ht⟩) hS.2.2 dX2_kindWithMostLeftOver_37
  have hl := lv_sub hl (l' := [(0, .ref a0), (1, .int 0), (2, .int 1)]) [2, 1, 0] rfl
  refine lp_rule (D := D) (F := s_X2_kindWithMostLeftOver_L1 f8 (s_X2_kindWithMostLeftOver_X1)) (P := fun (tv : Int32 × Int32) => [(a0, .inr (2, [w0_0, w0_1, w0_2, w0_3, w0_4, w0_5, w0_6, w0_7, w0_8, w0_9, w0_10, .ref a8])), (a8, .inl (cI, 4, .inl f8))]) (L := fun (tv : Int32 × Int32) => [(0, .ref a0), (1, .int tv.1), (2, .int tv.2)]) (nL := 3) (res := res) (A := A) (H0 := s.heap) (fun _ => rfl) ?_ 1000 (0, 1) _ _ hsp hP hD hS _ hl
  · intro n1 ih1 tv H locs hsp hP hD hS ls hl
    obtain ⟨x1, x2⟩ := tv
    have hsp : s_X2_kindWithMostLeftOver_B1  f8 (s_X2_kindWithMostLeftOver_X1) (s_X2_kindWithMostLeftOver_L1 f8 (s_X2_kindWithMostLeftOver_X1) n1) x1 x2 = some res := hsp
    unfold s_X2_kindWithMostLeftOver_B1 at hsp
    have hP : va_P D vwCl [(a0, .inr (2, [w0_0, w0_1, w0_2, w0_3, w0_4, w0_5, w0_6, w0_7, w0_8, w0_9, w0_10, .ref a8])), (a8, .inl (cI, 4, .inl f8))] H := hP
    have hD : va_D A [(a0, .inr (2, [w0_0, w0_1, w0_2, w0_3, w0_4, w0_5, w0_6, w0_7, w0_8, w0_9, w0_10, .ref a8])), (a8, .inl (cI, 4, .inl f8))] := hD
    have hl : lv_has ls 3 [(0, .ref a0), (1, .int x1), (2, .int x2)] := hl
    refine lv_iload_n hx hb dX2_kindWithMostLeftOver_4 rfl (lv_at hl 2 rfl) ?_
    refine lv_iconst (v := 4) hx hb dX2_kindWithMostLeftOver_5 (by decide) ?_
    refine lv_icmp_ge (tgt := 36) hx hb dX2_kindWithMostLeftOver_6 (by decide) (fun c4 => ?_) (fun c4 => ?_)
    · have hsp := itT hsp c4
      exact hx1 x1 _ _ hsp hP hD hS _ (lv_sub hl [1] rfl)
    have hsp := itF hsp c4
    refine lv_aload_n hx hb dX2_kindWithMostLeftOver_9 rfl (lv_at hl 0 rfl) ?_
    refine va_get (D := D) (ci := 2) (v := .ref a8) (C := RX2) (T := TX2) (N := 12) hx hb hts hi_X2 hown hK hP 0 rfl rfl 11 (by decide) hf_50 (fun _ h9 => h9) rfl dX2_kindWithMostLeftOver_10 ?_
    refine lv_iload_n hx hb dX2_kindWithMostLeftOver_13 rfl (lv_at hl 2 rfl) ?_
    obtain ⟨r5, hcr5, hsp⟩ := clE hsp
    refine call_i (w1 := [(a8, .inl (cI, 4, .inl f8))]) (ws' := [(a0, .inr (2, [w0_0, w0_1, w0_2, w0_3, w0_4, w0_5, w0_6, w0_7, w0_8, w0_9, w0_10, .ref a8])), (a8, .inl (cI, 4, .inl f8))]) (va_runSN (As := [.ref a8, .int x2]) (rest := []) ⟨hx, hb, hml, hown, hts⟩ (k_X4_at l D cI cZ cC cS H.size a8 4 f8 x2 r5 hcr5) ⟨va_cnB 2 hts gX2_kindWithMostLeftOver_X4_at_n61 rfl rfl rfl (mn_Studio_61 hKU.2.2) hin_X4 nd_X4_at.2 ⟨Nat.le_of_ble_eq_true rfl, Nat.le_of_ble_eq_true rfl⟩, hst_X4_at, trivial⟩ (PB.preS hKU hP hD [1] rfl rfl) rfl rfl hl.1 rfl (lv_room (Nat.le_of_ble_eq_true rfl)) dX2_kindWithMostLeftOver_14 ⟨Nat.zero_le _, Nat.zero_le _⟩) hS hP hD hA [1] rfl rfl (by first | (simp only [wset, List.set_cons_zero, List.set_cons_succ]; done) | rfl) rfl (fun H locs hP hD hS => ?_)
    refine lv_aload_n hx hb dX2_kindWithMostLeftOver_17 rfl (lv_at hl 0 rfl) ?_
    refine va_get (D := D) (ci := 2) (v := .ref a8) (C := RX2) (T := TX2) (N := 12) hx hb hts hi_X2 hown hK hP 0 rfl rfl 11 (by decide) hf_50 (fun _ h9 => h9) rfl dX2_kindWithMostLeftOver_18 ?_
    refine lv_iload_n hx hb dX2_kindWithMostLeftOver_21 rfl (lv_at hl 1 rfl) ?_
    obtain ⟨r6, hcr6, hsp⟩ := clE hsp
    refine call_i (w1 := [(a8, .inl (cI, 4, .inl f8))]) (ws' := [(a0, .inr (2, [w0_0, w0_1, w0_2, w0_3, w0_4, w0_5, w0_6, w0_7, w0_8, w0_9, w0_10, .ref a8])), (a8, .inl (cI, 4, .inl f8))]) (va_runSN (As := [.ref a8, .int x1]) (rest := [.int r5]) ⟨hx, hb, hml, hown, hts⟩ (k_X4_at l D cI cZ cC cS H.size a8 4 f8 x1 r6 hcr6) ⟨va_cnB 2 hts gX2_kindWithMostLeftOver_X4_at_n61 rfl rfl rfl (mn_Studio_61 hKU.2.2) hin_X4 nd_X4_at.2 ⟨Nat.le_of_ble_eq_true rfl, Nat.le_of_ble_eq_true rfl⟩, hst_X4_at, trivial⟩ (PB.preS hKU hP hD [1] rfl rfl) rfl rfl hl.1 rfl (lv_room (Nat.le_of_ble_eq_true rfl)) dX2_kindWithMostLeftOver_22 ⟨Nat.zero_le _, Nat.zero_le _⟩) hS hP hD hA [1] rfl rfl (by first | (simp only [wset, List.set_cons_zero, List.set_cons_succ]; done) | rfl) rfl (fun H locs hP hD hS => ?_)
    refine lv_icmp_le (tgt := 30) hx hb dX2_kindWithMostLeftOver_25 (by decide) (fun c7 => ?_) (fun c7 => ?_)
    · have hsp := itT hsp c7
      obtain ⟨x8, ex8, hsp⟩ := nmE hsp
      refine lv_iinc (k := 2) (v := x8) (lv' := [(2, .int x8), (0, .ref a0), (1, .int x1)]) hx hb dX2_kindWithMostLeftOver_30 hl rfl (by rw [ex8]; rfl) (by decide) rfl (fun ls hl => ?_)
      refine lv_goto (tgt := 4) hx hb dX2_kindWithMostLeftOver_33 (by decide) ?_
      exact ih1 (x1, x8) _ _ hsp hP hD hS _ (lv_sub hl [1, 2, 0] rfl)
    have hsp := itF hsp c7
    refine lv_iload_n hx hb dX2_kindWithMostLeftOver_28 rfl (lv_at hl 2 rfl) ?_
    refine lv_istore_n (lv' := [(1, .int x2), (0, .ref a0), (2, .int x2)]) hx hb dX2_kindWithMostLeftOver_29 rfl hl (by decide) rfl (fun ls hl => ?_)
    obtain ⟨x9, ex9, hsp⟩ := nmE hsp
    refine lv_iinc (k := 2) (v := x9) (lv' := [(2, .int x9), (1, .int x2), (0, .ref a0)]) hx hb dX2_kindWithMostLeftOver_30 hl rfl (by rw [ex9]; rfl) (by decide) rfl (fun ls hl => ?_)
    refine lv_goto (tgt := 4) hx hb dX2_kindWithMostLeftOver_33 (by decide) ?_
    exact ih1 (x2, x9) _ _ hsp hP hD hS _ (lv_sub hl [2, 1, 0] rfl)

theorem nd_X2_takeOut : yX2_takeOut.cls = RX2 ∧ yX2_takeOut.cls ≠ "java/lang/invoke/MethodHandle" ∧ yX2_takeOut.cls ≠ "java/lang/invoke/VarHandle" ∧ (parseMethodDescriptor yX2_takeOut.desc).map (fun d => d.parameters.length) = some 2 := by decide +kernel
set_option maxHeartbeats 8000000 in
set_option maxRecDepth 100000 in
theorem k_X2_takeOut (l : Launch) (D : va_G) (cI cZ cC cS : ClassId) (sz : Nat) (a0 a2 a7 a8 : Nat) (w0_0 : Value) (w0_2 : Value) (w0_3 : Value) (w0_4 : Value) (w0_5 : Value) (w0_6 : Value) (w0_7 : Value) (w0_8 : Value) (w0_9 : Value) (f2 : Nat → Int32) (f7 : Nat → Int32) (f8 : Nat → Int32) (u1 : Int32) (u2 : Int32) (res : (Nat → Int32) × (Nat → Int32) × (Nat → Int32)) (hsp : s_X2_takeOut f2 f7 f8 u1 u2 = some res) : Met l yX2_takeOut wsX2_takeOut ({ frames := 2, cells := 0, slots := 0, locals := 44 }) (va_Pc [.ref a0, .int u1, .int u2] (PB D cI cZ cC cS [(a0, .inr (2, [w0_0, .ref a2, w0_2, w0_3, w0_4, w0_5, w0_6, w0_7, w0_8, w0_9, .ref a7, .ref a8])), (a2, .inl (cI, 36, .inl f2)), (a7, .inl (cI, 4, .inl f7)), (a8, .inl (cI, 4, .inl f8))] sz)) (va_Qv (fun (_ : Unit) => True) (fun _ t => va_P D vwCl [(a0, .inr (2, [w0_0, .ref a2, w0_2, w0_3, w0_4, w0_5, w0_6, w0_7, w0_8, w0_9, .ref a7, .ref a8])), (a2, .inl (cI, 36, .inl res.1)), (a7, .inl (cI, 4, .inl res.2.1)), (a8, .inl (cI, 4, .inl res.2.2))] t.heap) (va_A [(a0, .inr (2, [w0_0, .ref a2, w0_2, w0_3, w0_4, w0_5, w0_6, w0_7, w0_8, w0_9, .ref a7, .ref a8])), (a2, .inl (cI, 36, .inl f2)), (a7, .inl (cI, 4, .inl f7)), (a8, .inl (cI, 4, .inl f8))] sz)) 0 0 (va_A [(a0, .inr (2, [w0_0, .ref a2, w0_2, w0_3, w0_4, w0_5, w0_6, w0_7, w0_8, w0_9, .ref a7, .ref a8])), (a2, .inl (cI, 36, .inl f2)), (a7, .inl (cI, 4, .inl f7)), (a8, .inl (cI, 4, .inl f8))] sz) := by
  refine Met.ofW (cc := cX2_takeOut) (maxL := 7) (ret := none) (by decide) rfl ?_
  intro p e s m args below meth c s₁ B hml hv
  obtain ⟨rfl, hsz, hP, hD0, hKU⟩ := hv
  have hx := B.exec
  have hb := B.bytes
  have hr := B.returns
  have hts := atoms_spec (ws := wsX2_takeOut) B.pre
  have hown : s.vm.findClass RX2 = some m.cls := findClass_of_methodNamed B.named
  have hlocks := B.notSynchronized
  have hK := hKU.1
  have hf_19 := hts (.fieldLink RX2 19 "ThinnedPots$Studio" "drops" "[I") (by decide +kernel)
  have hi_X2 : ∀ w ∈ u_ws RX2 TX2 12, w ∈ wsX2_takeOut := by decide +kernel
  have hf_47 := hts (.fieldLink RX2 47 "ThinnedPots$Studio" "taken" "[I") (by decide +kernel)
  have hst_X4_at := hts (.static yX4_at) (by decide +kernel)
  have hin_X4 := hts (.initialized RX4) (by decide +kernel)
  have hst_X4_add := hts (.static yX4_add) (by decide +kernel)
  have hf_50 := hts (.fieldLink RX2 50 "ThinnedPots$Studio" "leftOver" "[I") (by decide +kernel)
  have hst_X4_write := hts (.static yX4_write) (by decide +kernel)
  have hst_X4_divide := hts (.static yX4_divide) (by decide +kernel)
  have hst_X4_remainder := hts (.static yX4_remainder) (by decide +kernel)
  subst hsz
  have hD := hD0.self (sz := s.heap.size)
  generalize hAe : va_A [(a0, .inr (2, [w0_0, .ref a2, w0_2, w0_3, w0_4, w0_5, w0_6, w0_7, w0_8, w0_9, .ref a7, .ref a8])), (a2, .inl (cI, 36, .inl f2)), (a7, .inl (cI, 4, .inl f7)), (a8, .inl (cI, 4, .inl f8))] s.heap.size = A at hD ⊢
  have hA : ∀ q : Nat, s.heap.size ≤ q → A q := fun q h => by rw [← hAe]; exact Or.inr h
  have hP : va_P D vwCl [(a0, .inr (2, [w0_0, .ref a2, w0_2, w0_3, w0_4, w0_5, w0_6, w0_7, w0_8, w0_9, .ref a7, .ref a8])), (a2, .inl (cI, 36, .inl f2)), (a7, .inl (cI, 4, .inl f7)), (a8, .inl (cI, 4, .inl f8))] s.heap := hP
  generalize hHe : s.heap = H at hP ⊢
  have hS : va_S A s.heap H [] := by rw [hHe]; exact va_S.rf
  have hl := lv_entry ([.ref a0, .int u1, .int u2]) (n := 7) (Nat.le_of_ble_eq_true rfl)
  rw [lg_entry_eq]
  generalize (lg_sl ([.ref a0, .int u1, .int u2]) ++ List.replicate (7 - (lg_sl ([.ref a0, .int u1, .int u2])).length) Slot.unset).toArray = ls at hl ⊢
  have hl : lv_has ls 7 [(0, .ref a0), (1, .int u1), (2, .int u2)] := hl
  unfold s_X2_takeOut at hsp
  refine lv_aload_n hx hb dX2_takeOut_0 rfl (lv_at hl 0 rfl) ?_
  refine lv_iload_n hx hb dX2_takeOut_1 rfl (lv_at hl 1 rfl) ?_
  obtain ⟨r1, hcr1, hsp⟩ := clE hsp
  refine call_i (w1 := [(a0, .inr (2, [w0_0, .ref a2, w0_2, w0_3, w0_4, w0_5, w0_6, w0_7, w0_8, w0_9, .ref a7, .ref a8])), (a2, .inl (cI, 36, .inl f2))]) (ws' := [(a0, .inr (2, [w0_0, .ref a2, w0_2, w0_3, w0_4, w0_5, w0_6, w0_7, w0_8, w0_9, .ref a7, .ref a8])), (a2, .inl (cI, 36, .inl f2)), (a7, .inl (cI, 4, .inl f7)), (a8, .inl (cI, 4, .inl f8))]) (va_runV (As := [.int u1]) (rest := []) ⟨hx, hb, hml, hown, hts⟩ (k_X2_allDrops l D cI cZ cC cS H.size a0 a2 (w0_0) (w0_2) (w0_3) (w0_4) (w0_5) (w0_6) (w0_7) (w0_8) (w0_9) (.ref a7) (.ref a8) f2 u1 r1 hcr1) (cwV 1 hts gX2_takeOut_X2_allDrops rfl rfl rfl nd_X2_allDrops ⟨Nat.le_of_ble_eq_true rfl, Nat.le_of_ble_eq_true rfl⟩) (PB.preV (ci := 2) (q0 := 0) hKU hP hD [0, 1] rfl rfl rfl rfl) rfl rfl hl.1 rfl (lv_room (Nat.le_of_ble_eq_true rfl)) dX2_takeOut_2 ⟨Nat.zero_le _, Nat.zero_le _⟩) hS hP hD hA [0, 1] rfl rfl (by first | (simp only [wset, List.set_cons_zero, List.set_cons_succ]; done) | rfl) rfl (fun H locs hP hD hS => ?_)
  refine lv_istore_n (lv' := [(3, .int r1), (0, .ref a0), (1, .int u1), (2, .int u2)]) hx hb dX2_takeOut_5 rfl hl (by decide) rfl (fun ls hl => ?_)
  refine lv_iload_n hx hb dX2_takeOut_6 rfl (lv_at hl 3 rfl) ?_
  refine lv_istore (lv' := [(4, .int u2), (3, .int r1), (0, .ref a0), (1, .int u1), (2, .int u2)]) hx hb dX2_takeOut_7 hl (by decide) rfl (fun ls hl => ?_)
  refine lv_iconst (v := 0) hx hb dX2_takeOut_9 (by decide) ?_
  refine lv_istore (lv' := [(5, .int 0), (4, .int u2), (3, .int r1), (0, .ref a0), (1, .int u1), (2, .int u2)]) hx hb dX2_takeOut_10 hl (by decide) rfl (fun ls hl => ?_)
  refine ex_rule (D := D) (K := s_X2_takeOut_X1 u1 f2) (P := fun (t1 : Int32 × (Nat → Int32) × (Nat → Int32)) => [(a0, .inr (2, [w0_0, .ref a2, w0_2, w0_3, w0_4, w0_5, w0_6, w0_7, w0_8, w0_9, .ref a7, .ref a8])), (a2, .inl (cI, 36, .inl f2)), (a7, .inl (cI, 4, .inl t1.2.1)), (a8, .inl (cI, 4, .inl t1.2.2))]) (L := fun (t1 : Int32 × (Nat → Int32) × (Nat → Int32)) => [(0, .ref a0), (1, .int u1), (4, .int t1.1)]) (nL := 7) (pcx := 85) (res := res) (A := A) (H0 := s.heap) ?_ (fun hx1 => ?_)
  · intro t1 H locs hsp hP hD hS ls hl
    obtain ⟨x6, y7, y8⟩ := t1
    unfold s_X2_takeOut_X1 at hsp; try dsimp only at hsp
    have hP : va_P D vwCl [(a0, .inr (2, [w0_0, .ref a2, w0_2, w0_3, w0_4, w0_5, w0_6, w0_7, w0_8, w0_9, .ref a7, .ref a8])), (a2, .inl (cI, 36, .inl f2)), (a7, .inl (cI, 4, .inl y7)), (a8, .inl (cI, 4, .inl y8))] H := hP
    have hD : va_D A [(a0, .inr (2, [w0_0, .ref a2, w0_2, w0_3, w0_4, w0_5, w0_6, w0_7, w0_8, w0_9, .ref a7, .ref a8])), (a2, .inl (cI, 36, .inl f2)), (a7, .inl (cI, 4, .inl y7)), (a8, .inl (cI, 4, .inl y8))] := hD
    have hl : lv_has ls 7 [(0, .ref a0), (1, .int u1), (4, .int x6)] := hl
    refine lv_iconst (v := 0) hx hb dX2_takeOut_85 (by decide) ?_
    refine lv_istore (lv' := [(5, .int 0), (0, .ref a0), (1, .int u1), (4, .int x6)]) hx hb dX2_takeOut_86 hl (by decide) rfl (fun ls hl => ?_)
    refine ex_rule (D := D) (K := s_X2_takeOut_X2 u1 f2) (P := fun (t2 : (Nat → Int32) × (Nat → Int32)) => [(a0, .inr (2, [w0_0, .ref a2, w0_2, w0_3, w0_4, w0_5, w0_6, w0_7, w0_8, w0_9, .ref a7, .ref a8])), (a2, .inl (cI, 36, .inl f2)), (a7, .inl (cI, 4, .inl t2.1)), (a8, .inl (cI, 4, .inl t2.2))]) (L := fun (t2 : (Nat → Int32) × (Nat → Int32)) => [(0, .ref a0), (1, .int u1)]) (nL := 7) (pcx := 134) (res := res) (A := A) (H0 := s.heap) ?_ (fun hx2 => ?_)
    · intro t2 H locs hsp hP hD hS ls hl
      obtain ⟨y13, y14⟩ := t2
      unfold s_X2_takeOut_X2 at hsp; try dsimp only at hsp
      have hP : va_P D vwCl [(a0, .inr (2, [w0_0, .ref a2, w0_2, w0_3, w0_4, w0_5, w0_6, w0_7, w0_8, w0_9, .ref a7, .ref a8])), (a2, .inl (cI, 36, .inl f2)), (a7, .inl (cI, 4, .inl y13)), (a8, .inl (cI, 4, .inl y14))] H := hP
      have hD : va_D A [(a0, .inr (2, [w0_0, .ref a2, w0_2, w0_3, w0_4, w0_5, w0_6, w0_7, w0_8, w0_9, .ref a7, .ref a8])), (a2, .inl (cI, 36, .inl f2)), (a7, .inl (cI, 4, .inl y13)), (a8, .inl (cI, 4, .inl y14))] := hD
      have hl : lv_has ls 7 [(0, .ref a0), (1, .int u1)] := hl
      refine lv_iconst (v := 0) hx hb dX2_takeOut_134 (by decide) ?_
      refine lv_istore (lv' := [(5, .int 0), (0, .ref a0), (1, .int u1)]) hx hb dX2_takeOut_135 hl (by decide) rfl (fun ls hl => ?_)
      refine ex_rule (D := D) (K := s_X2_takeOut_X3 y13 y14) (P := fun (t3 : (Nat → Int32)) => [(a0, .inr (2, [w0_0, .ref a2, w0_2, w0_3, w0_4, w0_5, w0_6, w0_7, w0_8, w0_9, .ref a7, .ref a8])), (a2, .inl (cI, 36, .inl t3)), (a7, .inl (cI, 4, .inl y13)), (a8, .inl (cI, 4, .inl y14))]) (L := fun (t3 : (Nat → Int32)) => []) (nL := 7) (pcx := 172) (res := res) (A := A) (H0 := s.heap) ?_ (fun hx3 => ?_)
      · intro t3 H locs hsp hP hD hS ls hl
        obtain ⟨y17, rfl⟩ : ∃ z, z = t3 := ⟨_, rfl⟩
        unfold s_X2_takeOut_X3 at hsp; try dsimp only at hsp
        have hP : va_P D vwCl [(a0, .inr (2, [w0_0, .ref a2, w0_2, w0_3, w0_4, w0_5, w0_6, w0_7, w0_8, w0_9, .ref a7, .ref a8])), (a2, .inl (cI, 36, .inl y17)), (a7, .inl (cI, 4, .inl y13)), (a8, .inl (cI, 4, .inl y14))] H := hP
        have hD : va_D A [(a0, .inr (2, [w0_0, .ref a2, w0_2, w0_3, w0_4, w0_5, w0_6, w0_7, w0_8, w0_9, .ref a7, .ref a8])), (a2, .inl (cI, 36, .inl y17)), (a7, .inl (cI, 4, .inl y13)), (a8, .inl (cI, 4, .inl y14))] := hD
        have hl : lv_has ls 7 [] := hl
        have hres := Option.some.inj hsp
        subst hres
        exact W.vret hx hb hr (fun t ht hW => ⟨⟨(), rfl, trivial, P_at ht hP⟩, hS.F ht⟩) hS.2.2 dX2_takeOut_172
      have hl := lv_sub hl (l' := [(0, .ref a0), (1, .int u1), (5, .int 0)]) [1, 2, 0] rfl
      refine lp_rule (D := D) (F := s_X2_takeOut_L3 y13 u1 (s_X2_takeOut_X3 y13 y14)) (P := fun (tv : Int32 × (Nat → Int32)) => [(a0, .inr (2, [w0_0, .ref a2, w0_2, w0_3, w0_4, w0_5, w0_6, w0_7, w0_8, w0_9, .ref a7, .ref a8])), (a2, .inl (cI, 36, .inl tv.2)), (a7, .inl (cI, 4, .inl y13)), (a8, .inl (cI, 4, .inl y14))]) (L := fun (tv : Int32 × (Nat → Int32)) => [(0, .ref a0), (1, .int u1), (5, .int tv.1)]) (nL := 7) (res := res) (A := A) (H0 := s.heap) (fun _ => rfl) ?_ 1000 (0, f2) _ _ hsp hP hD hS _ hl
      · intro n3 ih3 tv H locs hsp hP hD hS ls hl
        obtain ⟨x15, y16⟩ := tv
        have hsp : s_X2_takeOut_B3  y13 u1 (s_X2_takeOut_X3 y13 y14) (s_X2_takeOut_L3 y13 u1 (s_X2_takeOut_X3 y13 y14) n3) x15 y16 = some res := hsp
        unfold s_X2_takeOut_B3 at hsp
        have hP : va_P D vwCl [(a0, .inr (2, [w0_0, .ref a2, w0_2, w0_3, w0_4, w0_5, w0_6, w0_7, w0_8, w0_9, .ref a7, .ref a8])), (a2, .inl (cI, 36, .inl y16)), (a7, .inl (cI, 4, .inl y13)), (a8, .inl (cI, 4, .inl y14))] H := hP
        have hD : va_D A [(a0, .inr (2, [w0_0, .ref a2, w0_2, w0_3, w0_4, w0_5, w0_6, w0_7, w0_8, w0_9, .ref a7, .ref a8])), (a2, .inl (cI, 36, .inl y16)), (a7, .inl (cI, 4, .inl y13)), (a8, .inl (cI, 4, .inl y14))] := hD
        have hl : lv_has ls 7 [(0, .ref a0), (1, .int u1), (5, .int x15)] := hl
        refine lv_iload hx hb dX2_takeOut_137 (lv_at hl 2 rfl) ?_
        refine lv_iconst (v := 4) hx hb dX2_takeOut_139 (by decide) ?_
        refine lv_icmp_ge (tgt := 172) hx hb dX2_takeOut_140 (by decide) (fun c18 => ?_) (fun c18 => ?_)
        · have hsp := itT hsp c18
          exact hx3 y16 _ _ hsp hP hD hS _ (lv_sub hl [] rfl)
        have hsp := itF hsp c18
        refine lv_aload_n hx hb dX2_takeOut_143 rfl (lv_at hl 0 rfl) ?_
        refine va_get (D := D) (ci := 2) (v := .ref a2) (C := RX2) (T := TX2) (N := 12) hx hb hts hi_X2 hown hK hP 0 rfl rfl 1 (by decide) hf_19 (fun _ h9 => h9) rfl dX2_takeOut_144 ?_
        refine lv_iload_n hx hb dX2_takeOut_147 rfl (lv_at hl 1 rfl) ?_
        refine lv_iconst (v := 4) hx hb dX2_takeOut_148 (by decide) ?_
        refine lv_imul hx hb dX2_takeOut_149 ?_
        refine lv_iload hx hb dX2_takeOut_150 (lv_at hl 2 rfl) ?_
        refine lv_iadd hx hb dX2_takeOut_152 ?_
        refine lv_aload_n hx hb dX2_takeOut_153 rfl (lv_at hl 0 rfl) ?_
        refine va_get (D := D) (ci := 2) (v := .ref a7) (C := RX2) (T := TX2) (N := 12) hx hb hts hi_X2 hown hK hP 0 rfl rfl 10 (by decide) hf_47 (fun _ h9 => h9) rfl dX2_takeOut_154 ?_
        refine lv_iload hx hb dX2_takeOut_157 (lv_at hl 2 rfl) ?_
        obtain ⟨r19, hcr19, hsp⟩ := clE hsp
        refine call_i (w1 := [(a7, .inl (cI, 4, .inl y13))]) (ws' := [(a0, .inr (2, [w0_0, .ref a2, w0_2, w0_3, w0_4, w0_5, w0_6, w0_7, w0_8, w0_9, .ref a7, .ref a8])), (a2, .inl (cI, 36, .inl y16)), (a7, .inl (cI, 4, .inl y13)), (a8, .inl (cI, 4, .inl y14))]) (va_runSN (As := [.ref a7, .int x15]) (rest := [.int ((u1 * 4) + x15), .ref a2]) ⟨hx, hb, hml, hown, hts⟩ (k_X4_at l D cI cZ cC cS H.size a7 4 y13 x15 r19 hcr19) ⟨va_cnB 2 hts gX2_takeOut_X4_at_n61 rfl rfl rfl (mn_Studio_61 hKU.2.2) hin_X4 nd_X4_at.2 ⟨Nat.le_of_ble_eq_true rfl, Nat.le_of_ble_eq_true rfl⟩, hst_X4_at, trivial⟩ (PB.preS hKU hP hD [2] rfl rfl) rfl rfl hl.1 rfl (lv_room (Nat.le_of_ble_eq_true rfl)) dX2_takeOut_159 ⟨Nat.zero_le _, Nat.zero_le _⟩) hS hP hD hA [2] rfl rfl (by first | (simp only [wset, List.set_cons_zero, List.set_cons_succ]; done) | rfl) rfl (fun H locs hP hD hS => ?_)
        refine lv_ineg hx hb dX2_takeOut_162 ?_
        obtain ⟨r20, hcr20, hsp⟩ := clE hsp
        refine call_v (w1 := [(a2, .inl (cI, 36, .inl r20))]) (ws' := [(a0, .inr (2, [w0_0, .ref a2, w0_2, w0_3, w0_4, w0_5, w0_6, w0_7, w0_8, w0_9, .ref a7, .ref a8])), (a2, .inl (cI, 36, .inl r20)), (a7, .inl (cI, 4, .inl y13)), (a8, .inl (cI, 4, .inl y14))]) (va_runSN (As := [.ref a2, .int ((u1 * 4) + x15), .int (-r19)]) (rest := []) ⟨hx, hb, hml, hown, hts⟩ (k_X4_add l D cI cZ cC cS H.size a2 36 y16 ((u1 * 4) + x15) (-r19) r20 hcr20) ⟨va_cnB 3 hts gX2_takeOut_X4_add_n73 rfl rfl rfl (mn_Studio_73 hKU.2.2) hin_X4 nd_X4_add.2 ⟨Nat.le_of_ble_eq_true rfl, Nat.le_of_ble_eq_true rfl⟩, hst_X4_add, trivial⟩ (PB.preS hKU hP hD [1] rfl rfl) rfl rfl hl.1 rfl (lv_room (Nat.le_of_ble_eq_true rfl)) dX2_takeOut_163 ⟨Nat.zero_le _, Nat.zero_le _⟩) hS hP hD hA [1] rfl rfl (by first | (simp only [wset, List.set_cons_zero, List.set_cons_succ]; done) | rfl) rfl (fun H locs hP hD hS => ?_)
        obtain ⟨x21, ex21, hsp⟩ := nmE hsp
        refine lv_iinc (k := 2) (v := x21) (lv' := [(5, .int x21), (0, .ref a0), (1, .int u1)]) hx hb dX2_takeOut_166 hl rfl (by rw [ex21]; rfl) (by decide) rfl (fun ls hl => ?_)
        refine lv_goto (tgt := 137) hx hb dX2_takeOut_169 (by decide) ?_
        exact ih3 (x21, r20) _ _ hsp hP hD hS _ (lv_sub hl [1, 2, 0] rfl)
    have hl := lv_sub hl (l' := [(0, .ref a0), (1, .int u1), (4, .int x6), (5, .int 0)]) [1, 2, 3, 0] rfl
    refine lp_rule (D := D) (F := s_X2_takeOut_L2 (s_X2_takeOut_X2 u1 f2)) (P := fun (tv : Int32 × Int32 × (Nat → Int32) × (Nat → Int32)) => [(a0, .inr (2, [w0_0, .ref a2, w0_2, w0_3, w0_4, w0_5, w0_6, w0_7, w0_8, w0_9, .ref a7, .ref a8])), (a2, .inl (cI, 36, .inl f2)), (a7, .inl (cI, 4, .inl tv.2.2.1)), (a8, .inl (cI, 4, .inl tv.2.2.2))]) (L := fun (tv : Int32 × Int32 × (Nat → Int32) × (Nat → Int32)) => [(0, .ref a0), (1, .int u1), (4, .int tv.1), (5, .int tv.2.1)]) (nL := 7) (res := res) (A := A) (H0 := s.heap) (fun _ => rfl) ?_ 1000 (x6, 0, y7, y8) _ _ hsp hP hD hS _ hl
    · intro n2 ih2 tv H locs hsp hP hD hS ls hl
      obtain ⟨x9, x10, y11, y12⟩ := tv
      have hsp : s_X2_takeOut_B2   (s_X2_takeOut_X2 u1 f2) (s_X2_takeOut_L2 (s_X2_takeOut_X2 u1 f2) n2) x9 x10 y11 y12 = some res := hsp
      unfold s_X2_takeOut_B2 at hsp
      have hP : va_P D vwCl [(a0, .inr (2, [w0_0, .ref a2, w0_2, w0_3, w0_4, w0_5, w0_6, w0_7, w0_8, w0_9, .ref a7, .ref a8])), (a2, .inl (cI, 36, .inl f2)), (a7, .inl (cI, 4, .inl y11)), (a8, .inl (cI, 4, .inl y12))] H := hP
      have hD : va_D A [(a0, .inr (2, [w0_0, .ref a2, w0_2, w0_3, w0_4, w0_5, w0_6, w0_7, w0_8, w0_9, .ref a7, .ref a8])), (a2, .inl (cI, 36, .inl f2)), (a7, .inl (cI, 4, .inl y11)), (a8, .inl (cI, 4, .inl y12))] := hD
      have hl : lv_has ls 7 [(0, .ref a0), (1, .int u1), (4, .int x9), (5, .int x10)] := hl
      refine lv_iload hx hb dX2_takeOut_88 (lv_at hl 3 rfl) ?_
      refine lv_iconst (v := 4) hx hb dX2_takeOut_90 (by decide) ?_
      refine lv_icmp_ge (tgt := 134) hx hb dX2_takeOut_91 (by decide) (fun c22 => ?_) (fun c22 => ?_)
      · have hsp := itT hsp c22
        exact hx2 (y11, y12) _ _ hsp hP hD hS _ (lv_sub hl [0, 1] rfl)
      have hsp := itF hsp c22
      refine lv_iload hx hb dX2_takeOut_94 (lv_at hl 2 rfl) ?_
      refine lv_if_le (tgt := 134) hx hb dX2_takeOut_96 (by decide) (fun c23 => ?_) (fun c23 => ?_)
      · have hsp := itT hsp c23
        exact hx2 (y11, y12) _ _ hsp hP hD hS _ (lv_sub hl [0, 1] rfl)
      have hsp := itF hsp c23
      refine lv_aload_n hx hb dX2_takeOut_99 rfl (lv_at hl 0 rfl) ?_
      obtain ⟨r24, hcr24, hsp⟩ := clE hsp
      refine call_i (w1 := [(a0, .inr (2, [w0_0, .ref a2, w0_2, w0_3, w0_4, w0_5, w0_6, w0_7, w0_8, w0_9, .ref a7, .ref a8])), (a8, .inl (cI, 4, .inl y12))]) (ws' := [(a0, .inr (2, [w0_0, .ref a2, w0_2, w0_3, w0_4, w0_5, w0_6, w0_7, w0_8, w0_9, .ref a7, .ref a8])), (a2, .inl (cI, 36, .inl f2)), (a7, .inl (cI, 4, .inl y11)), (a8, .inl (cI, 4, .inl y12))]) (va_runV (As := []) (rest := []) ⟨hx, hb, hml, hown, hts⟩ (k_X2_kindWithMostLeftOver l D cI cZ cC cS H.size a0 a8 (w0_0) (.ref a2) (w0_2) (w0_3) (w0_4) (w0_5) (w0_6) (w0_7) (w0_8) (w0_9) (.ref a7) y12 r24 hcr24) (cwV 0 hts gX2_takeOut_X2_kindWithMostLeftOver rfl rfl rfl nd_X2_kindWithMostLeftOver ⟨Nat.le_of_ble_eq_true rfl, Nat.le_of_ble_eq_true rfl⟩) (PB.preV (ci := 2) (q0 := 0) hKU hP hD [0, 3] rfl rfl rfl rfl) rfl rfl hl.1 rfl (lv_room (Nat.le_of_ble_eq_true rfl)) dX2_takeOut_100 ⟨Nat.zero_le _, Nat.zero_le _⟩) hS hP hD hA [0, 3] rfl rfl (by first | (simp only [wset, List.set_cons_zero, List.set_cons_succ]; done) | rfl) rfl (fun H locs hP hD hS => ?_)
      refine lv_istore (lv' := [(6, .int r24), (0, .ref a0), (1, .int u1), (4, .int x9), (5, .int x10)]) hx hb dX2_takeOut_103 hl (by decide) rfl (fun ls hl => ?_)
      refine lv_aload_n hx hb dX2_takeOut_105 rfl (lv_at hl 1 rfl) ?_
      refine va_get (D := D) (ci := 2) (v := .ref a7) (C := RX2) (T := TX2) (N := 12) hx hb hts hi_X2 hown hK hP 0 rfl rfl 10 (by decide) hf_47 (fun _ h9 => h9) rfl dX2_takeOut_106 ?_
      refine lv_iload hx hb dX2_takeOut_109 (lv_at hl 0 rfl) ?_
      refine lv_iconst (v := 1) hx hb dX2_takeOut_111 (by decide) ?_
      obtain ⟨r25, hcr25, hsp⟩ := clE hsp
      refine call_v (w1 := [(a7, .inl (cI, 4, .inl r25))]) (ws' := [(a0, .inr (2, [w0_0, .ref a2, w0_2, w0_3, w0_4, w0_5, w0_6, w0_7, w0_8, w0_9, .ref a7, .ref a8])), (a2, .inl (cI, 36, .inl f2)), (a7, .inl (cI, 4, .inl r25)), (a8, .inl (cI, 4, .inl y12))]) (va_runSN (As := [.ref a7, .int r24, .int 1]) (rest := []) ⟨hx, hb, hml, hown, hts⟩ (k_X4_add l D cI cZ cC cS H.size a7 4 y11 r24 1 r25 hcr25) ⟨va_cnB 3 hts gX2_takeOut_X4_add_n73 rfl rfl rfl (mn_Studio_73 hKU.2.2) hin_X4 nd_X4_add.2 ⟨Nat.le_of_ble_eq_true rfl, Nat.le_of_ble_eq_true rfl⟩, hst_X4_add, trivial⟩ (PB.preS hKU hP hD [2] rfl rfl) rfl rfl hl.1 rfl (lv_room (Nat.le_of_ble_eq_true rfl)) dX2_takeOut_112 ⟨Nat.zero_le _, Nat.zero_le _⟩) hS hP hD hA [2] rfl rfl (by first | (simp only [wset, List.set_cons_zero, List.set_cons_succ]; done) | rfl) rfl (fun H locs hP hD hS => ?_)
      refine lv_aload_n hx hb dX2_takeOut_115 rfl (lv_at hl 1 rfl) ?_
      refine va_get (D := D) (ci := 2) (v := .ref a8) (C := RX2) (T := TX2) (N := 12) hx hb hts hi_X2 hown hK hP 0 rfl rfl 11 (by decide) hf_50 (fun _ h9 => h9) rfl dX2_takeOut_116 ?_
      refine lv_iload hx hb dX2_takeOut_119 (lv_at hl 0 rfl) ?_
      refine lv_iconst (v := (-1)) hx hb dX2_takeOut_121 (by decide) ?_
      obtain ⟨r26, hcr26, hsp⟩ := clE hsp
      refine call_v (w1 := [(a8, .inl (cI, 4, .inl r26))]) (ws' := [(a0, .inr (2, [w0_0, .ref a2, w0_2, w0_3, w0_4, w0_5, w0_6, w0_7, w0_8, w0_9, .ref a7, .ref a8])), (a2, .inl (cI, 36, .inl f2)), (a7, .inl (cI, 4, .inl r25)), (a8, .inl (cI, 4, .inl r26))]) (va_runSN (As := [.ref a8, .int r24, .int (-1)]) (rest := []) ⟨hx, hb, hml, hown, hts⟩ (k_X4_write l D cI cZ cC cS H.size a8 4 y12 r24 (-1) r26 hcr26) ⟨va_cnB 3 hts gX2_takeOut_X4_write_n15 rfl rfl rfl (mn_Studio_15 hKU.2.2) hin_X4 nd_X4_write.2 ⟨Nat.le_of_ble_eq_true rfl, Nat.le_of_ble_eq_true rfl⟩, hst_X4_write, trivial⟩ (PB.preS hKU hP hD [3] rfl rfl) rfl rfl hl.1 rfl (lv_room (Nat.le_of_ble_eq_true rfl)) dX2_takeOut_122 ⟨Nat.zero_le _, Nat.zero_le _⟩) hS hP hD hA [3] rfl rfl (by first | (simp only [wset, List.set_cons_zero, List.set_cons_succ]; done) | rfl) rfl (fun H locs hP hD hS => ?_)
      obtain ⟨x27, ex27, hsp⟩ := nmE hsp
      refine lv_iinc (k := 3) (v := x27) (lv' := [(4, .int x27), (6, .int r24), (0, .ref a0), (1, .int u1), (5, .int x10)]) hx hb dX2_takeOut_125 hl rfl (by rw [ex27]; rfl) (by decide) rfl (fun ls hl => ?_)
      obtain ⟨x28, ex28, hsp⟩ := nmE hsp
      refine lv_iinc (k := 4) (v := x28) (lv' := [(5, .int x28), (4, .int x27), (6, .int r24), (0, .ref a0), (1, .int u1)]) hx hb dX2_takeOut_128 hl rfl (by rw [ex28]; rfl) (by decide) rfl (fun ls hl => ?_)
      refine lv_goto (tgt := 88) hx hb dX2_takeOut_131 (by decide) ?_
      exact ih2 (x27, x28, r25, r26) _ _ hsp hP hD hS _ (lv_sub hl [3, 4, 1, 0] rfl)
  have hl := lv_sub hl (l' := [(0, .ref a0), (1, .int u1), (2, .int u2), (3, .int r1), (4, .int u2), (5, .int 0)]) [3, 4, 5, 2, 1, 0] rfl
  refine lp_rule (D := D) (F := s_X2_takeOut_L1 f2 u1 u2 r1 (s_X2_takeOut_X1 u1 f2)) (P := fun (tv : Int32 × Int32 × (Nat → Int32) × (Nat → Int32)) => [(a0, .inr (2, [w0_0, .ref a2, w0_2, w0_3, w0_4, w0_5, w0_6, w0_7, w0_8, w0_9, .ref a7, .ref a8])), (a2, .inl (cI, 36, .inl f2)), (a7, .inl (cI, 4, .inl tv.2.2.1)), (a8, .inl (cI, 4, .inl tv.2.2.2))]) (L := fun (tv : Int32 × Int32 × (Nat → Int32) × (Nat → Int32)) => [(0, .ref a0), (1, .int u1), (2, .int u2), (3, .int r1), (4, .int tv.1), (5, .int tv.2.1)]) (nL := 7) (res := res) (A := A) (H0 := s.heap) (fun _ => rfl) ?_ 1000 (u2, 0, f7, f8) _ _ hsp hP hD hS _ hl
  · intro n1 ih1 tv H locs hsp hP hD hS ls hl
    obtain ⟨x2, x3, y4, y5⟩ := tv
    have hsp : s_X2_takeOut_B1  f2 u1 u2 r1 (s_X2_takeOut_X1 u1 f2) (s_X2_takeOut_L1 f2 u1 u2 r1 (s_X2_takeOut_X1 u1 f2) n1) x2 x3 y4 y5 = some res := hsp
    unfold s_X2_takeOut_B1 at hsp
    have hP : va_P D vwCl [(a0, .inr (2, [w0_0, .ref a2, w0_2, w0_3, w0_4, w0_5, w0_6, w0_7, w0_8, w0_9, .ref a7, .ref a8])), (a2, .inl (cI, 36, .inl f2)), (a7, .inl (cI, 4, .inl y4)), (a8, .inl (cI, 4, .inl y5))] H := hP
    have hD : va_D A [(a0, .inr (2, [w0_0, .ref a2, w0_2, w0_3, w0_4, w0_5, w0_6, w0_7, w0_8, w0_9, .ref a7, .ref a8])), (a2, .inl (cI, 36, .inl f2)), (a7, .inl (cI, 4, .inl y4)), (a8, .inl (cI, 4, .inl y5))] := hD
    have hl : lv_has ls 7 [(0, .ref a0), (1, .int u1), (2, .int u2), (3, .int r1), (4, .int x2), (5, .int x3)] := hl
    refine lv_iload hx hb dX2_takeOut_12 (lv_at hl 5 rfl) ?_
    refine lv_iconst (v := 4) hx hb dX2_takeOut_14 (by decide) ?_
    refine lv_icmp_ge (tgt := 85) hx hb dX2_takeOut_15 (by decide) (fun c29 => ?_) (fun c29 => ?_)
    · have hsp := itT hsp c29
      exact hx1 (x2, y4, y5) _ _ hsp hP hD hS _ (lv_sub hl [0, 1, 4] rfl)
    have hsp := itF hsp c29
    refine lv_aload_n hx hb dX2_takeOut_18 rfl (lv_at hl 0 rfl) ?_
    refine va_get (D := D) (ci := 2) (v := .ref a2) (C := RX2) (T := TX2) (N := 12) hx hb hts hi_X2 hown hK hP 0 rfl rfl 1 (by decide) hf_19 (fun _ h9 => h9) rfl dX2_takeOut_19 ?_
    refine lv_iload_n hx hb dX2_takeOut_22 rfl (lv_at hl 1 rfl) ?_
    refine lv_iconst (v := 4) hx hb dX2_takeOut_23 (by decide) ?_
    refine lv_imul hx hb dX2_takeOut_24 ?_
    refine lv_iload hx hb dX2_takeOut_25 (lv_at hl 5 rfl) ?_
    refine lv_iadd hx hb dX2_takeOut_27 ?_
    obtain ⟨r30, hcr30, hsp⟩ := clE hsp
    refine call_i (w1 := [(a2, .inl (cI, 36, .inl f2))]) (ws' := [(a0, .inr (2, [w0_0, .ref a2, w0_2, w0_3, w0_4, w0_5, w0_6, w0_7, w0_8, w0_9, .ref a7, .ref a8])), (a2, .inl (cI, 36, .inl f2)), (a7, .inl (cI, 4, .inl y4)), (a8, .inl (cI, 4, .inl y5))]) (va_runSN (As := [.ref a2, .int ((u1 * 4) + x3)]) (rest := []) ⟨hx, hb, hml, hown, hts⟩ (k_X4_at l D cI cZ cC cS H.size a2 36 f2 ((u1 * 4) + x3) r30 hcr30) ⟨va_cnB 2 hts gX2_takeOut_X4_at_n61 rfl rfl rfl (mn_Studio_61 hKU.2.2) hin_X4 nd_X4_at.2 ⟨Nat.le_of_ble_eq_true rfl, Nat.le_of_ble_eq_true rfl⟩, hst_X4_at, trivial⟩ (PB.preS hKU hP hD [1] rfl rfl) rfl rfl hl.1 rfl (lv_room (Nat.le_of_ble_eq_true rfl)) dX2_takeOut_28 ⟨Nat.zero_le _, Nat.zero_le _⟩) hS hP hD hA [1] rfl rfl (by first | (simp only [wset, List.set_cons_zero, List.set_cons_succ]; done) | rfl) rfl (fun H locs hP hD hS => ?_)
    refine lv_iload_n hx hb dX2_takeOut_31 rfl (lv_at hl 2 rfl) ?_
    refine lv_imul hx hb dX2_takeOut_32 ?_
    obtain ⟨x31, ex31, hsp⟩ := nmE hsp
    refine r_top ex31 ?_
    refine lv_istore (lv' := [(6, .int x31), (0, .ref a0), (1, .int u1), (2, .int u2), (3, .int r1), (4, .int x2), (5, .int x3)]) hx hb dX2_takeOut_33 hl (by decide) rfl (fun ls hl => ?_)
    refine lv_aload_n hx hb dX2_takeOut_35 rfl (lv_at hl 1 rfl) ?_
    refine va_get (D := D) (ci := 2) (v := .ref a7) (C := RX2) (T := TX2) (N := 12) hx hb hts hi_X2 hown hK hP 0 rfl rfl 10 (by decide) hf_47 (fun _ h9 => h9) rfl dX2_takeOut_36 ?_
    refine lv_iload hx hb dX2_takeOut_39 (lv_at hl 6 rfl) ?_
    refine lv_iload hx hb dX2_takeOut_41 (lv_at hl 0 rfl) ?_
    refine lv_iload_n hx hb dX2_takeOut_43 rfl (lv_at hl 4 rfl) ?_
    obtain ⟨r32, hcr32, hsp⟩ := clE hsp
    refine call_i (w1 := []) (ws' := [(a0, .inr (2, [w0_0, .ref a2, w0_2, w0_3, w0_4, w0_5, w0_6, w0_7, w0_8, w0_9, .ref a7, .ref a8])), (a2, .inl (cI, 36, .inl f2)), (a7, .inl (cI, 4, .inl y4)), (a8, .inl (cI, 4, .inl y5))]) (va_runSN (As := [.int x31, .int r1]) (rest := [.int x3, .ref a7]) ⟨hx, hb, hml, hown, hts⟩ (k_X4_divide l D cI cZ cC cS H.size x31 r1 r32 hcr32) ⟨va_cnB 2 hts gX2_takeOut_X4_divide_n131 rfl rfl rfl (mn_Studio_131 hKU.2.2) hin_X4 nd_X4_divide.2 ⟨Nat.le_of_ble_eq_true rfl, Nat.le_of_ble_eq_true rfl⟩, hst_X4_divide, trivial⟩ (PB.preS hKU hP hD [] rfl rfl) rfl rfl hl.1 rfl (lv_room (Nat.le_of_ble_eq_true rfl)) dX2_takeOut_44 ⟨Nat.zero_le _, Nat.zero_le _⟩) hS hP hD hA [] rfl rfl (by first | (simp only [wset, List.set_cons_zero, List.set_cons_succ]; done) | rfl) rfl (fun H locs hP hD hS => ?_)
    obtain ⟨r33, hcr33, hsp⟩ := clE hsp
    refine call_v (w1 := [(a7, .inl (cI, 4, .inl r33))]) (ws' := [(a0, .inr (2, [w0_0, .ref a2, w0_2, w0_3, w0_4, w0_5, w0_6, w0_7, w0_8, w0_9, .ref a7, .ref a8])), (a2, .inl (cI, 36, .inl f2)), (a7, .inl (cI, 4, .inl r33)), (a8, .inl (cI, 4, .inl y5))]) (va_runSN (As := [.ref a7, .int x3, .int r32]) (rest := []) ⟨hx, hb, hml, hown, hts⟩ (k_X4_write l D cI cZ cC cS H.size a7 4 y4 x3 r32 r33 hcr33) ⟨va_cnB 3 hts gX2_takeOut_X4_write_n15 rfl rfl rfl (mn_Studio_15 hKU.2.2) hin_X4 nd_X4_write.2 ⟨Nat.le_of_ble_eq_true rfl, Nat.le_of_ble_eq_true rfl⟩, hst_X4_write, trivial⟩ (PB.preS hKU hP hD [2] rfl rfl) rfl rfl hl.1 rfl (lv_room (Nat.le_of_ble_eq_true rfl)) dX2_takeOut_47 ⟨Nat.zero_le _, Nat.zero_le _⟩) hS hP hD hA [2] rfl rfl (by first | (simp only [wset, List.set_cons_zero, List.set_cons_succ]; done) | rfl) rfl (fun H locs hP hD hS => ?_)
    refine lv_aload_n hx hb dX2_takeOut_50 rfl (lv_at hl 1 rfl) ?_
    refine va_get (D := D) (ci := 2) (v := .ref a8) (C := RX2) (T := TX2) (N := 12) hx hb hts hi_X2 hown hK hP 0 rfl rfl 11 (by decide) hf_50 (fun _ h9 => h9) rfl dX2_takeOut_51 ?_
    refine lv_iload hx hb dX2_takeOut_54 (lv_at hl 6 rfl) ?_
    refine lv_iload hx hb dX2_takeOut_56 (lv_at hl 0 rfl) ?_
    refine lv_iload_n hx hb dX2_takeOut_58 rfl (lv_at hl 4 rfl) ?_
    obtain ⟨r34, hcr34, hsp⟩ := clE hsp
    refine call_i (w1 := []) (ws' := [(a0, .inr (2, [w0_0, .ref a2, w0_2, w0_3, w0_4, w0_5, w0_6, w0_7, w0_8, w0_9, .ref a7, .ref a8])), (a2, .inl (cI, 36, .inl f2)), (a7, .inl (cI, 4, .inl r33)), (a8, .inl (cI, 4, .inl y5))]) (va_runSN (As := [.int x31, .int r1]) (rest := [.int x3, .ref a8]) ⟨hx, hb, hml, hown, hts⟩ (k_X4_remainder l D cI cZ cC cS H.size x31 r1 r34 hcr34) ⟨va_cnB 2 hts gX2_takeOut_X4_remainder_n134 rfl rfl rfl (mn_Studio_134 hKU.2.2) hin_X4 nd_X4_remainder.2 ⟨Nat.le_of_ble_eq_true rfl, Nat.le_of_ble_eq_true rfl⟩, hst_X4_remainder, trivial⟩ (PB.preS hKU hP hD [] rfl rfl) rfl rfl hl.1 rfl (lv_room (Nat.le_of_ble_eq_true rfl)) dX2_takeOut_59 ⟨Nat.zero_le _, Nat.zero_le _⟩) hS hP hD hA [] rfl rfl (by first | (simp only [wset, List.set_cons_zero, List.set_cons_succ]; done) | rfl) rfl (fun H locs hP hD hS => ?_)
    obtain ⟨r35, hcr35, hsp⟩ := clE hsp
    refine call_v (w1 := [(a8, .inl (cI, 4, .inl r35))]) (ws' := [(a0, .inr (2, [w0_0, .ref a2, w0_2, w0_3, w0_4, w0_5, w0_6, w0_7, w0_8, w0_9, .ref a7, .ref a8])), (a2, .inl (cI, 36, .inl f2)), (a7, .inl (cI, 4, .inl r33)), (a8, .inl (cI, 4, .inl r35))]) (va_runSN (As := [.ref a8, .int x3, .int r34]) (rest := []) ⟨hx, hb, hml, hown, hts⟩ (k_X4_write l D cI cZ cC cS H.size a8 4 y5 x3 r34 r35 hcr35) ⟨va_cnB 3 hts gX2_takeOut_X4_write_n15 rfl rfl rfl (mn_Studio_15 hKU.2.2) hin_X4 nd_X4_write.2 ⟨Nat.le_of_ble_eq_true rfl, Nat.le_of_ble_eq_true rfl⟩, hst_X4_write, trivial⟩ (PB.preS hKU hP hD [3] rfl rfl) rfl rfl hl.1 rfl (lv_room (Nat.le_of_ble_eq_true rfl)) dX2_takeOut_62 ⟨Nat.zero_le _, Nat.zero_le _⟩) hS hP hD hA [3] rfl rfl (by first | (simp only [wset, List.set_cons_zero, List.set_cons_succ]; done) | rfl) rfl (fun H locs hP hD hS => ?_)
    refine lv_iload hx hb dX2_takeOut_65 (lv_at hl 5 rfl) ?_
    refine lv_aload_n hx hb dX2_takeOut_67 rfl (lv_at hl 1 rfl) ?_
    refine va_get (D := D) (ci := 2) (v := .ref a7) (C := RX2) (T := TX2) (N := 12) hx hb hts hi_X2 hown hK hP 0 rfl rfl 10 (by decide) hf_47 (fun _ h9 => h9) rfl dX2_takeOut_68 ?_
    refine lv_iload hx hb dX2_takeOut_71 (lv_at hl 6 rfl) ?_
    obtain ⟨r36, hcr36, hsp⟩ := clE hsp
    refine call_i (w1 := [(a7, .inl (cI, 4, .inl r33))]) (ws' := [(a0, .inr (2, [w0_0, .ref a2, w0_2, w0_3, w0_4, w0_5, w0_6, w0_7, w0_8, w0_9, .ref a7, .ref a8])), (a2, .inl (cI, 36, .inl f2)), (a7, .inl (cI, 4, .inl r33)), (a8, .inl (cI, 4, .inl r35))]) (va_runSN (As := [.ref a7, .int x3]) (rest := [.int x2]) ⟨hx, hb, hml, hown, hts⟩ (k_X4_at l D cI cZ cC cS H.size a7 4 r33 x3 r36 hcr36) ⟨va_cnB 2 hts gX2_takeOut_X4_at_n61 rfl rfl rfl (mn_Studio_61 hKU.2.2) hin_X4 nd_X4_at.2 ⟨Nat.le_of_ble_eq_true rfl, Nat.le_of_ble_eq_true rfl⟩, hst_X4_at, trivial⟩ (PB.preS hKU hP hD [2] rfl rfl) rfl rfl hl.1 rfl (lv_room (Nat.le_of_ble_eq_true rfl)) dX2_takeOut_73 ⟨Nat.zero_le _, Nat.zero_le _⟩) hS hP hD hA [2] rfl rfl (by first | (simp only [wset, List.set_cons_zero, List.set_cons_succ]; done) | rfl) rfl (fun H locs hP hD hS => ?_)
    refine lv_isub hx hb dX2_takeOut_76 ?_
    obtain ⟨x37, ex37, hsp⟩ := nmE hsp
    refine r_top ex37 ?_
    refine lv_istore (lv' := [(4, .int x37), (6, .int x31), (0, .ref a0), (1, .int u1), (2, .int u2), (3, .int r1), (5, .int x3)]) hx hb dX2_takeOut_77 hl (by decide) rfl (fun ls hl => ?_)
    obtain ⟨x38, ex38, hsp⟩ := nmE hsp
    refine lv_iinc (k := 6) (v := x38) (lv' := [(5, .int x38), (4, .int x37), (6, .int x31), (0, .ref a0), (1, .int u1), (2, .int u2), (3, .int r1)]) hx hb dX2_takeOut_79 hl rfl (by rw [ex38]; rfl) (by decide) rfl (fun ls hl => ?_)
    refine lv_goto (tgt := 12) hx hb dX2_takeOut_82 (by decide) ?_
    exact ih1 (x37, x38, r33, r35) _ _ hsp hP hD hS _ (lv_sub hl [3, 4, 5, 6, 1, 0] rfl)

theorem nd_X2_move : yX2_move.cls = RX2 ∧ yX2_move.cls ≠ "java/lang/invoke/MethodHandle" ∧ yX2_move.cls ≠ "java/lang/invoke/VarHandle" ∧ (parseMethodDescriptor yX2_move.desc).map (fun d => d.parameters.length) = some 4 := by decide +kernel
set_option maxHeartbeats 8000000 in
set_option maxRecDepth 100000 in
theorem k_X2_move (l : Launch) (D : va_G) (cI cZ cC cS : ClassId) (sz : Nat) (a0 a2 a7 a8 : Nat) (w0_0 : Value) (w0_2 : Value) (w0_3 : Value) (w0_4 : Value) (w0_5 : Value) (w0_6 : Value) (w0_7 : Value) (w0_8 : Value) (w0_9 : Value) (f2 : Nat → Int32) (f7 : Nat → Int32) (f8 : Nat → Int32) (u1 : Int32) (u2 : Int32) (u3 : Int32) (u4 : Int32) (res : Int32 × (Nat → Int32) × (Nat → Int32) × (Nat → Int32)) (hsp : s_X2_move f2 f7 f8 u1 u2 u3 u4 = some res) : Met l yX2_move wsX2_move ({ frames := 3, cells := 0, slots := 0, locals := 70 }) (va_Pc [.ref a0, .int u1, .int u2, .int u3, .int u4] (PB D cI cZ cC cS [(a0, .inr (2, [w0_0, .ref a2, w0_2, w0_3, w0_4, w0_5, w0_6, w0_7, w0_8, w0_9, .ref a7, .ref a8])), (a2, .inl (cI, 36, .inl f2)), (a7, .inl (cI, 4, .inl f7)), (a8, .inl (cI, 4, .inl f8))] sz)) (va_Qi (fun r (_ : Unit) => r = res.1) (fun _ t => va_P D vwCl [(a0, .inr (2, [w0_0, .ref a2, w0_2, w0_3, w0_4, w0_5, w0_6, w0_7, w0_8, w0_9, .ref a7, .ref a8])), (a2, .inl (cI, 36, .inl res.2.1)), (a7, .inl (cI, 4, .inl res.2.2.1)), (a8, .inl (cI, 4, .inl res.2.2.2))] t.heap) (va_A [(a0, .inr (2, [w0_0, .ref a2, w0_2, w0_3, w0_4, w0_5, w0_6, w0_7, w0_8, w0_9, .ref a7, .ref a8])), (a2, .inl (cI, 36, .inl f2)), (a7, .inl (cI, 4, .inl f7)), (a8, .inl (cI, 4, .inl f8))] sz)) 0 0 (va_A [(a0, .inr (2, [w0_0, .ref a2, w0_2, w0_3, w0_4, w0_5, w0_6, w0_7, w0_8, w0_9, .ref a7, .ref a8])), (a2, .inl (cI, 36, .inl f2)), (a7, .inl (cI, 4, .inl f7)), (a8, .inl (cI, 4, .inl f8))] sz) := by
  refine Met.ofW (cc := cX2_move) (maxL := 7) (ret := (some .int)) (by decide) rfl ?_
  intro p e s m args below meth c s₁ B hml hv
  obtain ⟨rfl, hsz, hP, hD0, hKU⟩ := hv
  have hx := B.exec
  have hb := B.bytes
  have hr := B.returns
  have hts := atoms_spec (ws := wsX2_move) B.pre
  have hown : s.vm.findClass RX2 = some m.cls := findClass_of_methodNamed B.named
  have hlocks := B.notSynchronized
  have hK := hKU.1
  have hf_19 := hts (.fieldLink RX2 19 "ThinnedPots$Studio" "drops" "[I") (by decide +kernel)
  have hi_X2 : ∀ w ∈ u_ws RX2 TX2 12, w ∈ wsX2_move := by decide +kernel
  have hf_47 := hts (.fieldLink RX2 47 "ThinnedPots$Studio" "taken" "[I") (by decide +kernel)
  have hst_X4_at := hts (.static yX4_at) (by decide +kernel)
  have hin_X4 := hts (.initialized RX4) (by decide +kernel)
  have hst_X4_add := hts (.static yX4_add) (by decide +kernel)
  subst hsz
  have hD := hD0.self (sz := s.heap.size)
  generalize hAe : va_A [(a0, .inr (2, [w0_0, .ref a2, w0_2, w0_3, w0_4, w0_5, w0_6, w0_7, w0_8, w0_9, .ref a7, .ref a8])), (a2, .inl (cI, 36, .inl f2)), (a7, .inl (cI, 4, .inl f7)), (a8, .inl (cI, 4, .inl f8))] s.heap.size = A at hD ⊢
  have hA : ∀ q : Nat, s.heap.size ≤ q → A q := fun q h => by rw [← hAe]; exact Or.inr h
  have hP : va_P D vwCl [(a0, .inr (2, [w0_0, .ref a2, w0_2, w0_3, w0_4, w0_5, w0_6, w0_7, w0_8, w0_9, .ref a7, .ref a8])), (a2, .inl (cI, 36, .inl f2)), (a7, .inl (cI, 4, .inl f7)), (a8, .inl (cI, 4, .inl f8))] s.heap := hP
  generalize hHe : s.heap = H at hP ⊢
  have hS : va_S A s.heap H [] := by rw [hHe]; exact va_S.rf
  have hl := lv_entry ([.ref a0, .int u1, .int u2, .int u3, .int u4]) (n := 7) (Nat.le_of_ble_eq_true rfl)
  rw [lg_entry_eq]
  generalize (lg_sl ([.ref a0, .int u1, .int u2, .int u3, .int u4]) ++ List.replicate (7 - (lg_sl ([.ref a0, .int u1, .int u2, .int u3, .int u4])).length) Slot.unset).toArray = ls at hl ⊢
  have hl : lv_has ls 7 [(0, .ref a0), (1, .int u1), (2, .int u2), (3, .int u3), (4, .int u4)] := hl
  unfold s_X2_move at hsp
  refine lv_aload_n hx hb dX2_move_0 rfl (lv_at hl 0 rfl) ?_
  refine lv_iload_n hx hb dX2_move_1 rfl (lv_at hl 1 rfl) ?_
  obtain ⟨r1, hcr1, hsp⟩ := clE hsp
  refine call_i (w1 := [(a0, .inr (2, [w0_0, .ref a2, w0_2, w0_3, w0_4, w0_5, w0_6, w0_7, w0_8, w0_9, .ref a7, .ref a8])), (a2, .inl (cI, 36, .inl f2))]) (ws' := [(a0, .inr (2, [w0_0, .ref a2, w0_2, w0_3, w0_4, w0_5, w0_6, w0_7, w0_8, w0_9, .ref a7, .ref a8])), (a2, .inl (cI, 36, .inl f2)), (a7, .inl (cI, 4, .inl f7)), (a8, .inl (cI, 4, .inl f8))]) (va_runV (As := [.int u1]) (rest := []) ⟨hx, hb, hml, hown, hts⟩ (k_X2_allDrops l D cI cZ cC cS H.size a0 a2 (w0_0) (w0_2) (w0_3) (w0_4) (w0_5) (w0_6) (w0_7) (w0_8) (w0_9) (.ref a7) (.ref a8) f2 u1 r1 hcr1) (cwV 1 hts gX2_move_X2_allDrops rfl rfl rfl nd_X2_allDrops ⟨Nat.le_of_ble_eq_true rfl, Nat.le_of_ble_eq_true rfl⟩) (PB.preV (ci := 2) (q0 := 0) hKU hP hD [0, 1] rfl rfl rfl rfl) rfl rfl hl.1 rfl (lv_room (Nat.le_of_ble_eq_true rfl)) dX2_move_2 ⟨Nat.zero_le _, Nat.zero_le _⟩) hS hP hD hA [0, 1] rfl rfl (by first | (simp only [wset, List.set_cons_zero, List.set_cons_succ]; done) | rfl) rfl (fun H locs hP hD hS => ?_)
  refine lv_iload_n hx hb dX2_move_5 rfl (lv_at hl 3 rfl) ?_
  refine lv_icmp_ge (tgt := 12) hx hb dX2_move_6 (by decide) (fun c2 => ?_) (fun c2 => ?_)
  · have hsp := itT hsp c2
    refine lv_aload_n hx hb dX2_move_12 rfl (lv_at hl 0 rfl) ?_
    refine lv_iload_n hx hb dX2_move_13 rfl (lv_at hl 2 rfl) ?_
    obtain ⟨r3, hcr3, hsp⟩ := clE hsp
    refine call_i (w1 := [(a0, .inr (2, [w0_0, .ref a2, w0_2, w0_3, w0_4, w0_5, w0_6, w0_7, w0_8, w0_9, .ref a7, .ref a8])), (a2, .inl (cI, 36, .inl f2))]) (ws' := [(a0, .inr (2, [w0_0, .ref a2, w0_2, w0_3, w0_4, w0_5, w0_6, w0_7, w0_8, w0_9, .ref a7, .ref a8])), (a2, .inl (cI, 36, .inl f2)), (a7, .inl (cI, 4, .inl f7)), (a8, .inl (cI, 4, .inl f8))]) (va_runV (As := [.int u2]) (rest := []) ⟨hx, hb, hml, hown, hts⟩ (k_X2_allDrops l D cI cZ cC cS H.size a0 a2 (w0_0) (w0_2) (w0_3) (w0_4) (w0_5) (w0_6) (w0_7) (w0_8) (w0_9) (.ref a7) (.ref a8) f2 u2 r3 hcr3) (cwV 1 hts gX2_move_X2_allDrops rfl rfl rfl nd_X2_allDrops ⟨Nat.le_of_ble_eq_true rfl, Nat.le_of_ble_eq_true rfl⟩) (PB.preV (ci := 2) (q0 := 0) hKU hP hD [0, 1] rfl rfl rfl rfl) rfl rfl hl.1 rfl (lv_room (Nat.le_of_ble_eq_true rfl)) dX2_move_14 ⟨Nat.zero_le _, Nat.zero_le _⟩) hS hP hD hA [0, 1] rfl rfl (by first | (simp only [wset, List.set_cons_zero, List.set_cons_succ]; done) | rfl) rfl (fun H locs hP hD hS => ?_)
    refine lv_iload_n hx hb dX2_move_17 rfl (lv_at hl 3 rfl) ?_
    refine lv_iadd hx hb dX2_move_18 ?_
    obtain ⟨x4, ex4, hsp⟩ := nmE hsp
    refine r_top ex4 ?_
    refine lv_istore (lv' := [(5, .int x4), (0, .ref a0), (1, .int u1), (2, .int u2), (3, .int u3), (4, .int u4)]) hx hb dX2_move_19 hl (by decide) rfl (fun ls hl => ?_)
    refine lv_iload hx hb dX2_move_21 (lv_at hl 0 rfl) ?_
    refine lv_iload hx hb dX2_move_23 (lv_at hl 5 rfl) ?_
    refine lv_icmp_le (tgt := 31) hx hb dX2_move_25 (by decide) (fun c5 => ?_) (fun c5 => ?_)
    · have hsp := itT hsp c5
      refine lv_aload_n hx hb dX2_move_31 rfl (lv_at hl 1 rfl) ?_
      refine lv_iload_n hx hb dX2_move_32 rfl (lv_at hl 2 rfl) ?_
      refine lv_iload_n hx hb dX2_move_33 rfl (lv_at hl 4 rfl) ?_
      obtain ⟨r6, hcr6, hsp⟩ := clE hsp
      refine call_v (w1 := [(a0, .inr (2, [w0_0, .ref a2, w0_2, w0_3, w0_4, w0_5, w0_6, w0_7, w0_8, w0_9, .ref a7, .ref a8])), (a2, .inl (cI, 36, .inl r6.1)), (a7, .inl (cI, 4, .inl r6.2.1)), (a8, .inl (cI, 4, .inl r6.2.2))]) (ws' := [(a0, .inr (2, [w0_0, .ref a2, w0_2, w0_3, w0_4, w0_5, w0_6, w0_7, w0_8, w0_9, .ref a7, .ref a8])), (a2, .inl (cI, 36, .inl r6.1)), (a7, .inl (cI, 4, .inl r6.2.1)), (a8, .inl (cI, 4, .inl r6.2.2))]) (va_runV (As := [.int u1, .int u3]) (rest := []) ⟨hx, hb, hml, hown, hts⟩ (k_X2_takeOut l D cI cZ cC cS H.size a0 a2 a7 a8 (w0_0) (w0_2) (w0_3) (w0_4) (w0_5) (w0_6) (w0_7) (w0_8) (w0_9) f2 f7 f8 u1 u3 r6 hcr6) (cwV 2 hts gX2_move_X2_takeOut rfl rfl rfl nd_X2_takeOut ⟨Nat.le_of_ble_eq_true rfl, Nat.le_of_ble_eq_true rfl⟩) (PB.preV (ci := 2) (q0 := 0) hKU hP hD [0, 1, 2, 3] rfl rfl rfl rfl) rfl rfl hl.1 rfl (lv_room (Nat.le_of_ble_eq_true rfl)) dX2_move_34 ⟨Nat.zero_le _, Nat.zero_le _⟩) hS hP hD hA [0, 1, 2, 3] rfl rfl (by first | (simp only [wset, List.set_cons_zero, List.set_cons_succ]; done) | rfl) rfl (fun H locs hP hD hS => ?_)
      refine lv_iconst (v := 0) hx hb dX2_move_37 (by decide) ?_
      refine lv_istore (lv' := [(6, .int 0), (5, .int x4), (0, .ref a0), (1, .int u1), (2, .int u2), (3, .int u3), (4, .int u4)]) hx hb dX2_move_38 hl (by decide) rfl (fun ls hl => ?_)
      refine ex_rule (D := D) (K := s_X2_move_X1 x4 r6) (P := fun (t1 : (Nat → Int32)) => [(a0, .inr (2, [w0_0, .ref a2, w0_2, w0_3, w0_4, w0_5, w0_6, w0_7, w0_8, w0_9, .ref a7, .ref a8])), (a2, .inl (cI, 36, .inl t1)), (a7, .inl (cI, 4, .inl r6.2.1)), (a8, .inl (cI, 4, .inl r6.2.2))]) (L := fun (t1 : (Nat → Int32)) => [(5, .int x4)]) (nL := 7) (pcx := 74) (res := res) (A := A) (H0 := s.heap) ?_ (fun hx1 => ?_)
      · intro t1 H locs hsp hP hD hS ls hl
        obtain ⟨y9, rfl⟩ : ∃ z, z = t1 := ⟨_, rfl⟩
        unfold s_X2_move_X1 at hsp; try dsimp only at hsp
        have hP : va_P D vwCl [(a0, .inr (2, [w0_0, .ref a2, w0_2, w0_3, w0_4, w0_5, w0_6, w0_7, w0_8, w0_9, .ref a7, .ref a8])), (a2, .inl (cI, 36, .inl y9)), (a7, .inl (cI, 4, .inl r6.2.1)), (a8, .inl (cI, 4, .inl r6.2.2))] H := hP
        have hD : va_D A [(a0, .inr (2, [w0_0, .ref a2, w0_2, w0_3, w0_4, w0_5, w0_6, w0_7, w0_8, w0_9, .ref a7, .ref a8])), (a2, .inl (cI, 36, .inl y9)), (a7, .inl (cI, 4, .inl r6.2.1)), (a8, .inl (cI, 4, .inl r6.2.2))] := hD
        have hl : lv_has ls 7 [(5, .int x4)] := hl
        refine lv_iload hx hb dX2_move_74 (lv_at hl 0 rfl) ?_
        have hres := Option.some.inj hsp
        subst hres
        exact W.iret (v := x4) hx hb hr (fun t ht hW => ⟨⟨x4, (), rfl, rfl, P_at ht hP⟩, hS.F ht⟩) hS.2.2 dX2_move_76
      have hl := lv_sub hl (l' := [(0, .ref a0), (2, .int u2), (5, .int x4), (6, .int 0)]) [2, 4, 1, 0] rfl
      refine lp_rule (D := D) (F := s_X2_move_L1 r6 u2 (s_X2_move_X1 x4 r6)) (P := fun (tv : Int32 × (Nat → Int32)) => [(a0, .inr (2, [w0_0, .ref a2, w0_2, w0_3, w0_4, w0_5, w0_6, w0_7, w0_8, w0_9, .ref a7, .ref a8])), (a2, .inl (cI, 36, .inl tv.2)), (a7, .inl (cI, 4, .inl r6.2.1)), (a8, .inl (cI, 4, .inl r6.2.2))]) (L := fun (tv : Int32 × (Nat → Int32)) => [(0, .ref a0), (2, .int u2), (5, .int x4), (6, .int tv.1)]) (nL := 7) (res := res) (A := A) (H0 := s.heap) (fun _ => rfl) ?_ 1000 (0, r6.1) _ _ hsp hP hD hS _ hl
      · intro n1 ih1 tv H locs hsp hP hD hS ls hl
        obtain ⟨x7, y8⟩ := tv
        have hsp : s_X2_move_B1  r6 u2 (s_X2_move_X1 x4 r6) (s_X2_move_L1 r6 u2 (s_X2_move_X1 x4 r6) n1) x7 y8 = some res := hsp
        unfold s_X2_move_B1 at hsp
        have hP : va_P D vwCl [(a0, .inr (2, [w0_0, .ref a2, w0_2, w0_3, w0_4, w0_5, w0_6, w0_7, w0_8, w0_9, .ref a7, .ref a8])), (a2, .inl (cI, 36, .inl y8)), (a7, .inl (cI, 4, .inl r6.2.1)), (a8, .inl (cI, 4, .inl r6.2.2))] H := hP
        have hD : va_D A [(a0, .inr (2, [w0_0, .ref a2, w0_2, w0_3, w0_4, w0_5, w0_6, w0_7, w0_8, w0_9, .ref a7, .ref a8])), (a2, .inl (cI, 36, .inl y8)), (a7, .inl (cI, 4, .inl r6.2.1)), (a8, .inl (cI, 4, .inl r6.2.2))] := hD
        have hl : lv_has ls 7 [(0, .ref a0), (2, .int u2), (5, .int x4), (6, .int x7)] := hl
        refine lv_iload hx hb dX2_move_40 (lv_at hl 3 rfl) ?_
        refine lv_iconst (v := 4) hx hb dX2_move_42 (by decide) ?_
        refine lv_icmp_ge (tgt := 74) hx hb dX2_move_43 (by decide) (fun c10 => ?_) (fun c10 => ?_)
        · have hsp := itT hsp c10
          exact hx1 y8 _ _ hsp hP hD hS _ (lv_sub hl [2] rfl)
        have hsp := itF hsp c10
        refine lv_aload_n hx hb dX2_move_46 rfl (lv_at hl 0 rfl) ?_
        refine va_get (D := D) (ci := 2) (v := .ref a2) (C := RX2) (T := TX2) (N := 12) hx hb hts hi_X2 hown hK hP 0 rfl rfl 1 (by decide) hf_19 (fun _ h9 => h9) rfl dX2_move_47 ?_
        refine lv_iload_n hx hb dX2_move_50 rfl (lv_at hl 1 rfl) ?_
        refine lv_iconst (v := 4) hx hb dX2_move_51 (by decide) ?_
        refine lv_imul hx hb dX2_move_52 ?_
        refine lv_iload hx hb dX2_move_53 (lv_at hl 3 rfl) ?_
        refine lv_iadd hx hb dX2_move_55 ?_
        refine lv_aload_n hx hb dX2_move_56 rfl (lv_at hl 0 rfl) ?_
        refine va_get (D := D) (ci := 2) (v := .ref a7) (C := RX2) (T := TX2) (N := 12) hx hb hts hi_X2 hown hK hP 0 rfl rfl 10 (by decide) hf_47 (fun _ h9 => h9) rfl dX2_move_57 ?_
        refine lv_iload hx hb dX2_move_60 (lv_at hl 3 rfl) ?_
        obtain ⟨r11, hcr11, hsp⟩ := clE hsp
        refine call_i (w1 := [(a7, .inl (cI, 4, .inl r6.2.1))]) (ws' := [(a0, .inr (2, [w0_0, .ref a2, w0_2, w0_3, w0_4, w0_5, w0_6, w0_7, w0_8, w0_9, .ref a7, .ref a8])), (a2, .inl (cI, 36, .inl y8)), (a7, .inl (cI, 4, .inl r6.2.1)), (a8, .inl (cI, 4, .inl r6.2.2))]) (va_runSN (As := [.ref a7, .int x7]) (rest := [.int ((u2 * 4) + x7), .ref a2]) ⟨hx, hb, hml, hown, hts⟩ (k_X4_at l D cI cZ cC cS H.size a7 4 r6.2.1 x7 r11 hcr11) ⟨va_cnB 2 hts gX2_move_X4_at_n61 rfl rfl rfl (mn_Studio_61 hKU.2.2) hin_X4 nd_X4_at.2 ⟨Nat.le_of_ble_eq_true rfl, Nat.le_of_ble_eq_true rfl⟩, hst_X4_at, trivial⟩ (PB.preS hKU hP hD [2] rfl rfl) rfl rfl hl.1 rfl (lv_room (Nat.le_of_ble_eq_true rfl)) dX2_move_62 ⟨Nat.zero_le _, Nat.zero_le _⟩) hS hP hD hA [2] rfl rfl (by first | (simp only [wset, List.set_cons_zero, List.set_cons_succ]; done) | rfl) rfl (fun H locs hP hD hS => ?_)
        obtain ⟨r12, hcr12, hsp⟩ := clE hsp
        refine call_v (w1 := [(a2, .inl (cI, 36, .inl r12))]) (ws' := [(a0, .inr (2, [w0_0, .ref a2, w0_2, w0_3, w0_4, w0_5, w0_6, w0_7, w0_8, w0_9, .ref a7, .ref a8])), (a2, .inl (cI, 36, .inl r12)), (a7, .inl (cI, 4, .inl r6.2.1)), (a8, .inl (cI, 4, .inl r6.2.2))]) (va_runSN (As := [.ref a2, .int ((u2 * 4) + x7), .int r11]) (rest := []) ⟨hx, hb, hml, hown, hts⟩ (k_X4_add l D cI cZ cC cS H.size a2 36 y8 ((u2 * 4) + x7) r11 r12 hcr12) ⟨va_cnB 3 hts gX2_move_X4_add_n73 rfl rfl rfl (mn_Studio_73 hKU.2.2) hin_X4 nd_X4_add.2 ⟨Nat.le_of_ble_eq_true rfl, Nat.le_of_ble_eq_true rfl⟩, hst_X4_add, trivial⟩ (PB.preS hKU hP hD [1] rfl rfl) rfl rfl hl.1 rfl (lv_room (Nat.le_of_ble_eq_true rfl)) dX2_move_65 ⟨Nat.zero_le _, Nat.zero_le _⟩) hS hP hD hA [1] rfl rfl (by first | (simp only [wset, List.set_cons_zero, List.set_cons_succ]; done) | rfl) rfl (fun H locs hP hD hS => ?_)
        obtain ⟨x13, ex13, hsp⟩ := nmE hsp
        refine lv_iinc (k := 3) (v := x13) (lv' := [(6, .int x13), (0, .ref a0), (2, .int u2), (5, .int x4)]) hx hb dX2_move_68 hl rfl (by rw [ex13]; rfl) (by decide) rfl (fun ls hl => ?_)
        refine lv_goto (tgt := 40) hx hb dX2_move_71 (by decide) ?_
        exact ih1 (x13, r12) _ _ hsp hP hD hS _ (lv_sub hl [1, 2, 3, 0] rfl)
    have hsp := itF hsp c5
    refine lv_bipush (v := (-4)) hx hb dX2_move_28 (by decide) ?_
    have hres := Option.some.inj hsp
    subst hres
    exact W.iret (v := (-4)) hx hb hr (fun t ht hW => ⟨⟨(-4), (), rfl, rfl, P_at ht hP⟩, hS.F ht⟩) hS.2.2 dX2_move_30
  have hsp := itF hsp c2
  refine lv_bipush (v := (-5)) hx hb dX2_move_9 (by decide) ?_
  have hres := Option.some.inj hsp
  subst hres
  exact W.iret (v := (-5)) hx hb hr (fun t ht hW => ⟨⟨(-5), (), rfl, rfl, P_at ht hP⟩, hS.F ht⟩) hS.2.2 dX2_move_11

theorem nd_X2_dipBrush : yX2_dipBrush.cls = RX2 ∧ yX2_dipBrush.cls ≠ "java/lang/invoke/MethodHandle" ∧ yX2_dipBrush.cls ≠ "java/lang/invoke/VarHandle" ∧ (parseMethodDescriptor yX2_dipBrush.desc).map (fun d => d.parameters.length) = some 2 := by decide +kernel
set_option maxHeartbeats 8000000 in
set_option maxRecDepth 100000 in
theorem k_X2_dipBrush (l : Launch) (D : va_G) (cI cZ cC cS : ClassId) (sz : Nat) (a0 a2 a7 a8 : Nat) (w0_0 : Value) (w0_2 : Value) (w0_3 : Value) (w0_4 : Value) (w0_5 : Value) (w0_6 : Value) (w0_7 : Value) (w0_8 : Value) (w0_9 : Value) (f2 : Nat → Int32) (f7 : Nat → Int32) (f8 : Nat → Int32) (u1 : Int32) (u2 : Int32) (res : Int32 × (Nat → Int32) × (Nat → Int32) × (Nat → Int32)) (hsp : s_X2_dipBrush f2 f7 f8 u1 u2 = some res) : Met l yX2_dipBrush wsX2_dipBrush ({ frames := 4, cells := 0, slots := 0, locals := 96 }) (va_Pc [.ref a0, .int u1, .int u2] (PB D cI cZ cC cS [(a0, .inr (2, [w0_0, .ref a2, w0_2, w0_3, w0_4, w0_5, w0_6, w0_7, w0_8, w0_9, .ref a7, .ref a8])), (a2, .inl (cI, 36, .inl f2)), (a7, .inl (cI, 4, .inl f7)), (a8, .inl (cI, 4, .inl f8))] sz)) (va_Qi (fun r (_ : Unit) => r = res.1) (fun _ t => va_P D vwCl [(a0, .inr (2, [w0_0, .ref a2, w0_2, w0_3, w0_4, w0_5, w0_6, w0_7, w0_8, w0_9, .ref a7, .ref a8])), (a2, .inl (cI, 36, .inl res.2.1)), (a7, .inl (cI, 4, .inl res.2.2.1)), (a8, .inl (cI, 4, .inl res.2.2.2))] t.heap) (va_A [(a0, .inr (2, [w0_0, .ref a2, w0_2, w0_3, w0_4, w0_5, w0_6, w0_7, w0_8, w0_9, .ref a7, .ref a8])), (a2, .inl (cI, 36, .inl f2)), (a7, .inl (cI, 4, .inl f7)), (a8, .inl (cI, 4, .inl f8))] sz)) 0 0 (va_A [(a0, .inr (2, [w0_0, .ref a2, w0_2, w0_3, w0_4, w0_5, w0_6, w0_7, w0_8, w0_9, .ref a7, .ref a8])), (a2, .inl (cI, 36, .inl f2)), (a7, .inl (cI, 4, .inl f7)), (a8, .inl (cI, 4, .inl f8))] sz) := by
  refine Met.ofW (cc := cX2_dipBrush) (maxL := 3) (ret := (some .int)) (by decide) rfl ?_
  intro p e s m args below meth c s₁ B hml hv
  obtain ⟨rfl, hsz, hP, hD0, hKU⟩ := hv
  have hx := B.exec
  have hb := B.bytes
  have hr := B.returns
  have hts := atoms_spec (ws := wsX2_dipBrush) B.pre
  have hown : s.vm.findClass RX2 = some m.cls := findClass_of_methodNamed B.named
  have hlocks := B.notSynchronized
  have hK := hKU.1
  have hst_X4_isWithin := hts (.static yX4_isWithin) (by decide +kernel)
  have hin_X4 := hts (.initialized RX4) (by decide +kernel)
  have hst_X4_isBetween := hts (.static yX4_isBetween) (by decide +kernel)
  subst hsz
  have hD := hD0.self (sz := s.heap.size)
  generalize hAe : va_A [(a0, .inr (2, [w0_0, .ref a2, w0_2, w0_3, w0_4, w0_5, w0_6, w0_7, w0_8, w0_9, .ref a7, .ref a8])), (a2, .inl (cI, 36, .inl f2)), (a7, .inl (cI, 4, .inl f7)), (a8, .inl (cI, 4, .inl f8))] s.heap.size = A at hD ⊢
  have hA : ∀ q : Nat, s.heap.size ≤ q → A q := fun q h => by rw [← hAe]; exact Or.inr h
  have hP : va_P D vwCl [(a0, .inr (2, [w0_0, .ref a2, w0_2, w0_3, w0_4, w0_5, w0_6, w0_7, w0_8, w0_9, .ref a7, .ref a8])), (a2, .inl (cI, 36, .inl f2)), (a7, .inl (cI, 4, .inl f7)), (a8, .inl (cI, 4, .inl f8))] s.heap := hP
  generalize hHe : s.heap = H at hP ⊢
  have hS : va_S A s.heap H [] := by rw [hHe]; exact va_S.rf
  have hl := lv_entry ([.ref a0, .int u1, .int u2]) (n := 3) (Nat.le_of_ble_eq_true rfl)
  rw [lg_entry_eq]
  generalize (lg_sl ([.ref a0, .int u1, .int u2]) ++ List.replicate (3 - (lg_sl ([.ref a0, .int u1, .int u2])).length) Slot.unset).toArray = ls at hl ⊢
  have hl : lv_has ls 3 [(0, .ref a0), (1, .int u1), (2, .int u2)] := hl
  unfold s_X2_dipBrush at hsp
  refine lv_iload_n hx hb dX2_dipBrush_0 rfl (lv_at hl 1 rfl) ?_
  refine lv_bipush (v := 8) hx hb dX2_dipBrush_1 (by decide) ?_
  obtain ⟨r1, hcr1, hsp⟩ := clE hsp
  refine call_z (w1 := []) (ws' := [(a0, .inr (2, [w0_0, .ref a2, w0_2, w0_3, w0_4, w0_5, w0_6, w0_7, w0_8, w0_9, .ref a7, .ref a8])), (a2, .inl (cI, 36, .inl f2)), (a7, .inl (cI, 4, .inl f7)), (a8, .inl (cI, 4, .inl f8))]) (va_runSN (As := [.int u1, .int 8]) (rest := []) ⟨hx, hb, hml, hown, hts⟩ (k_X4_isWithin l D cI cZ cC cS H.size u1 8 r1 hcr1) ⟨va_cnB 2 hts gX2_dipBrush_X4_isWithin_n65 rfl rfl rfl (mn_Studio_65 hKU.2.2) hin_X4 nd_X4_isWithin.2 ⟨Nat.le_of_ble_eq_true rfl, Nat.le_of_ble_eq_true rfl⟩, hst_X4_isWithin, trivial⟩ (PB.preS hKU hP hD [] rfl rfl) rfl rfl hl.1 rfl (lv_room (Nat.le_of_ble_eq_true rfl)) dX2_dipBrush_3 ⟨Nat.zero_le _, Nat.zero_le _⟩) hS hP hD hA [] rfl rfl (by first | (simp only [wset, List.set_cons_zero, List.set_cons_succ]; done) | rfl) rfl (fun H locs hP hD hS hzr1 => ?_)
  refine lv_if_ne (tgt := 11) hx hb dX2_dipBrush_6 (by decide) (fun c2 => ?_) (fun c2 => ?_)
  · have hsp := itF hsp c2
    refine lv_iload_n hx hb dX2_dipBrush_11 rfl (lv_at hl 2 rfl) ?_
    refine lv_iconst (v := 1) hx hb dX2_dipBrush_12 (by decide) ?_
    refine lv_bipush (v := 9) hx hb dX2_dipBrush_13 (by decide) ?_
    obtain ⟨r3, hcr3, hsp⟩ := clE hsp
    refine call_z (w1 := []) (ws' := [(a0, .inr (2, [w0_0, .ref a2, w0_2, w0_3, w0_4, w0_5, w0_6, w0_7, w0_8, w0_9, .ref a7, .ref a8])), (a2, .inl (cI, 36, .inl f2)), (a7, .inl (cI, 4, .inl f7)), (a8, .inl (cI, 4, .inl f8))]) (va_runSN (As := [.int u2, .int 1, .int 9]) (rest := []) ⟨hx, hb, hml, hown, hts⟩ (k_X4_isBetween l D cI cZ cC cS H.size u2 1 9 r3 hcr3) ⟨va_cnB 3 hts gX2_dipBrush_X4_isBetween_n57 rfl rfl rfl (mn_Studio_57 hKU.2.2) hin_X4 nd_X4_isBetween.2 ⟨Nat.le_of_ble_eq_true rfl, Nat.le_of_ble_eq_true rfl⟩, hst_X4_isBetween, trivial⟩ (PB.preS hKU hP hD [] rfl rfl) rfl rfl hl.1 rfl (lv_room (Nat.le_of_ble_eq_true rfl)) dX2_dipBrush_15 ⟨Nat.zero_le _, Nat.zero_le _⟩) hS hP hD hA [] rfl rfl (by first | (simp only [wset, List.set_cons_zero, List.set_cons_succ]; done) | rfl) rfl (fun H locs hP hD hS hzr3 => ?_)
    refine lv_if_ne (tgt := 24) hx hb dX2_dipBrush_18 (by decide) (fun c4 => ?_) (fun c4 => ?_)
    · have hsp := itF hsp c4
      refine lv_aload_n hx hb dX2_dipBrush_24 rfl (lv_at hl 0 rfl) ?_
      refine lv_iload_n hx hb dX2_dipBrush_25 rfl (lv_at hl 1 rfl) ?_
      refine lv_bipush (v := 8) hx hb dX2_dipBrush_26 (by decide) ?_
      refine lv_iload_n hx hb dX2_dipBrush_28 rfl (lv_at hl 2 rfl) ?_
      refine lv_bipush (v := 9) hx hb dX2_dipBrush_29 (by decide) ?_
      obtain ⟨r5, hcr5, hsp⟩ := clE hsp
      refine call_i (w1 := [(a0, .inr (2, [w0_0, .ref a2, w0_2, w0_3, w0_4, w0_5, w0_6, w0_7, w0_8, w0_9, .ref a7, .ref a8])), (a2, .inl (cI, 36, .inl r5.2.1)), (a7, .inl (cI, 4, .inl r5.2.2.1)), (a8, .inl (cI, 4, .inl r5.2.2.2))]) (ws' := [(a0, .inr (2, [w0_0, .ref a2, w0_2, w0_3, w0_4, w0_5, w0_6, w0_7, w0_8, w0_9, .ref a7, .ref a8])), (a2, .inl (cI, 36, .inl r5.2.1)), (a7, .inl (cI, 4, .inl r5.2.2.1)), (a8, .inl (cI, 4, .inl r5.2.2.2))]) (va_runV (As := [.int u1, .int 8, .int u2, .int 9]) (rest := []) ⟨hx, hb, hml, hown, hts⟩ (k_X2_move l D cI cZ cC cS H.size a0 a2 a7 a8 (w0_0) (w0_2) (w0_3) (w0_4) (w0_5) (w0_6) (w0_7) (w0_8) (w0_9) f2 f7 f8 u1 8 u2 9 r5 hcr5) (cwV 4 hts gX2_dipBrush_X2_move rfl rfl rfl nd_X2_move ⟨Nat.le_of_ble_eq_true rfl, Nat.le_of_ble_eq_true rfl⟩) (PB.preV (ci := 2) (q0 := 0) hKU hP hD [0, 1, 2, 3] rfl rfl rfl rfl) rfl rfl hl.1 rfl (lv_room (Nat.le_of_ble_eq_true rfl)) dX2_dipBrush_31 ⟨Nat.zero_le _, Nat.zero_le _⟩) hS hP hD hA [0, 1, 2, 3] rfl rfl (by first | (simp only [wset, List.set_cons_zero, List.set_cons_succ]; done) | rfl) rfl (fun H locs hP hD hS => ?_)
      have hres := Option.some.inj hsp
      subst hres
      exact W.iret (v := r5.1) hx hb hr (fun t ht hW => ⟨⟨r5.1, (), rfl, rfl, P_at ht hP⟩, hS.F ht⟩) hS.2.2 dX2_dipBrush_34
    have hsp := itT hsp c4
    refine lv_bipush (v := (-2)) hx hb dX2_dipBrush_21 (by decide) ?_
    have hres := Option.some.inj hsp
    subst hres
    exact W.iret (v := (-2)) hx hb hr (fun t ht hW => ⟨⟨(-2), (), rfl, rfl, P_at ht hP⟩, hS.F ht⟩) hS.2.2 dX2_dipBrush_23
  have hsp := itT hsp c2
  refine lv_iconst (v := (-1)) hx hb dX2_dipBrush_9 (by decide) ?_
  have hres := Option.some.inj hsp
  subst hres
  exact W.iret (v := (-1)) hx hb hr (fun t ht hW => ⟨⟨(-1), (), rfl, rfl, P_at ht hP⟩, hS.F ht⟩) hS.2.2 dX2_dipBrush_10

theorem nd_X2_sink : yX2_sink.cls = RX2 ∧ yX2_sink.cls ≠ "java/lang/invoke/MethodHandle" ∧ yX2_sink.cls ≠ "java/lang/invoke/VarHandle" ∧ (parseMethodDescriptor yX2_sink.desc).map (fun d => d.parameters.length) = some 1 := by decide +kernel
set_option maxHeartbeats 8000000 in
set_option maxRecDepth 100000 in
theorem k_X2_sink (l : Launch) (D : va_G) (cI cZ cC cS : ClassId) (sz : Nat) (a0 a2 : Nat) (w0_0 : Value) (w0_2 : Value) (w0_3 : Value) (w0_4 : Value) (w0_5 : Value) (w0_6 : Value) (w0_7 : Value) (g0_8 : Int32) (w0_9 : Value) (w0_10 : Value) (w0_11 : Value) (f2 : Nat → Int32) (u1 : Int32) (res : Int32 × Int32 × (Nat → Int32)) (hsp : s_X2_sink g0_8 f2 u1 = some res) : Met l yX2_sink wsX2_sink ({ frames := 1, cells := 0, slots := 0, locals := 22 }) (va_Pc [.ref a0, .int u1] (PB D cI cZ cC cS [(a0, .inr (2, [w0_0, .ref a2, w0_2, w0_3, w0_4, w0_5, w0_6, w0_7, .int g0_8, w0_9, w0_10, w0_11])), (a2, .inl (cI, 36, .inl f2))] sz)) (va_Qi (fun r (_ : Unit) => r = res.1) (fun _ t => va_P D vwCl [(a0, .inr (2, [w0_0, .ref a2, w0_2, w0_3, w0_4, w0_5, w0_6, w0_7, .int res.2.1, w0_9, w0_10, w0_11])), (a2, .inl (cI, 36, .inl res.2.2))] t.heap) (va_A [(a0, .inr (2, [w0_0, .ref a2, w0_2, w0_3, w0_4, w0_5, w0_6, w0_7, .int g0_8, w0_9, w0_10, w0_11])), (a2, .inl (cI, 36, .inl f2))] sz)) 0 0 (va_A [(a0, .inr (2, [w0_0, .ref a2, w0_2, w0_3, w0_4, w0_5, w0_6, w0_7, .int g0_8, w0_9, w0_10, w0_11])), (a2, .inl (cI, 36, .inl f2))] sz) := by
  refine Met.ofW (cc := cX2_sink) (maxL := 4) (ret := (some .int)) (by decide) rfl ?_
  intro p e s m args below meth c s₁ B hml hv
  obtain ⟨rfl, hsz, hP, hD0, hKU⟩ := hv
  have hx := B.exec
  have hb := B.bytes
  have hr := B.returns
  have hts := atoms_spec (ws := wsX2_sink) B.pre
  have hown : s.vm.findClass RX2 = some m.cls := findClass_of_methodNamed B.named
  have hlocks := B.notSynchronized
  have hK := hKU.1
  have hf_41 := hts (.fieldLink RX2 41 "ThinnedPots$Studio" "dropsRinsed" "I") (by decide +kernel)
  have hi_X2 : ∀ w ∈ u_ws RX2 TX2 12, w ∈ wsX2_sink := by decide +kernel
  have hf_19 := hts (.fieldLink RX2 19 "ThinnedPots$Studio" "drops" "[I") (by decide +kernel)
  have hst_X4_write := hts (.static yX4_write) (by decide +kernel)
  have hin_X4 := hts (.initialized RX4) (by decide +kernel)
  subst hsz
  have hD := hD0.self (sz := s.heap.size)
  generalize hAe : va_A [(a0, .inr (2, [w0_0, .ref a2, w0_2, w0_3, w0_4, w0_5, w0_6, w0_7, .int g0_8, w0_9, w0_10, w0_11])), (a2, .inl (cI, 36, .inl f2))] s.heap.size = A at hD ⊢
  have hA : ∀ q : Nat, s.heap.size ≤ q → A q := fun q h => by rw [← hAe]; exact Or.inr h
  have hP : va_P D vwCl [(a0, .inr (2, [w0_0, .ref a2, w0_2, w0_3, w0_4, w0_5, w0_6, w0_7, .int g0_8, w0_9, w0_10, w0_11])), (a2, .inl (cI, 36, .inl f2))] s.heap := hP
  generalize hHe : s.heap = H at hP ⊢
  have hS : va_S A s.heap H [] := by rw [hHe]; exact va_S.rf
  have hl := lv_entry ([.ref a0, .int u1]) (n := 4) (Nat.le_of_ble_eq_true rfl)
  rw [lg_entry_eq]
  generalize (lg_sl ([.ref a0, .int u1]) ++ List.replicate (4 - (lg_sl ([.ref a0, .int u1])).length) Slot.unset).toArray = ls at hl ⊢
  have hl : lv_has ls 4 [(0, .ref a0), (1, .int u1)] := hl
  unfold s_X2_sink at hsp
  refine lv_aload_n hx hb dX2_sink_0 rfl (lv_at hl 0 rfl) ?_
  refine lv_iload_n hx hb dX2_sink_1 rfl (lv_at hl 1 rfl) ?_
  obtain ⟨r1, hcr1, hsp⟩ := clE hsp
  refine call_i (w1 := [(a0, .inr (2, [w0_0, .ref a2, w0_2, w0_3, w0_4, w0_5, w0_6, w0_7, .int g0_8, w0_9, w0_10, w0_11])), (a2, .inl (cI, 36, .inl f2))]) (ws' := [(a0, .inr (2, [w0_0, .ref a2, w0_2, w0_3, w0_4, w0_5, w0_6, w0_7, .int g0_8, w0_9, w0_10, w0_11])), (a2, .inl (cI, 36, .inl f2))]) (va_runV (As := [.int u1]) (rest := []) ⟨hx, hb, hml, hown, hts⟩ (k_X2_allDrops l D cI cZ cC cS H.size a0 a2 (w0_0) (w0_2) (w0_3) (w0_4) (w0_5) (w0_6) (w0_7) (.int g0_8) (w0_9) (w0_10) (w0_11) f2 u1 r1 hcr1) (cwV 1 hts gX2_sink_X2_allDrops rfl rfl rfl nd_X2_allDrops ⟨Nat.le_of_ble_eq_true rfl, Nat.le_of_ble_eq_true rfl⟩) (PB.preV (ci := 2) (q0 := 0) hKU hP hD [0, 1] rfl rfl rfl rfl) rfl rfl hl.1 rfl (lv_room (Nat.le_of_ble_eq_true rfl)) dX2_sink_2 ⟨Nat.zero_le _, Nat.zero_le _⟩) hS hP hD hA [0, 1] rfl rfl (by first | (simp only [wset, List.set_cons_zero, List.set_cons_succ]; done) | rfl) rfl (fun H locs hP hD hS => ?_)
  refine lv_istore_n (lv' := [(2, .int r1), (0, .ref a0), (1, .int u1)]) hx hb dX2_sink_5 rfl hl (by decide) rfl (fun ls hl => ?_)
  refine lv_iconst (v := 0) hx hb dX2_sink_6 (by decide) ?_
  refine lv_istore_n (lv' := [(3, .int 0), (2, .int r1), (0, .ref a0), (1, .int u1)]) hx hb dX2_sink_7 rfl hl (by decide) rfl (fun ls hl => ?_)
  refine ex_rule (D := D) (K := s_X2_sink_X1 g0_8 r1) (P := fun (t1 : (Nat → Int32)) => [(a0, .inr (2, [w0_0, .ref a2, w0_2, w0_3, w0_4, w0_5, w0_6, w0_7, .int g0_8, w0_9, w0_10, w0_11])), (a2, .inl (cI, 36, .inl t1))]) (L := fun (t1 : (Nat → Int32)) => [(0, .ref a0), (2, .int r1)]) (nL := 4) (pcx := 32) (res := res) (A := A) (H0 := s.heap) ?_ (fun hx1 => ?_)
  · intro t1 H locs hsp hP hD hS ls hl
    obtain ⟨y4, rfl⟩ : ∃ z, z = t1 := ⟨_, rfl⟩
    unfold s_X2_sink_X1 at hsp; try dsimp only at hsp
    have hP : va_P D vwCl [(a0, .inr (2, [w0_0, .ref a2, w0_2, w0_3, w0_4, w0_5, w0_6, w0_7, .int g0_8, w0_9, w0_10, w0_11])), (a2, .inl (cI, 36, .inl y4))] H := hP
    have hD : va_D A [(a0, .inr (2, [w0_0, .ref a2, w0_2, w0_3, w0_4, w0_5, w0_6, w0_7, .int g0_8, w0_9, w0_10, w0_11])), (a2, .inl (cI, 36, .inl y4))] := hD
    have hl : lv_has ls 4 [(0, .ref a0), (2, .int r1)] := hl
    refine lv_aload_n hx hb dX2_sink_32 rfl (lv_at hl 0 rfl) ?_
    refine lv_dup hx hb dX2_sink_33 rfl ?_
    refine va_get (D := D) (ci := 2) (v := .int g0_8) (C := RX2) (T := TX2) (N := 12) hx hb hts hi_X2 hown hK hP 0 rfl rfl 8 (by decide) hf_41 (fun _ h9 => h9) rfl dX2_sink_34 ?_
    refine lv_iload_n hx hb dX2_sink_37 rfl (lv_at hl 1 rfl) ?_
    refine lv_iadd hx hb dX2_sink_38 ?_
    obtain ⟨x5, ex5, hsp⟩ := nmE hsp
    refine r_top ex5 ?_
    refine va_put (D := D) (ci := 2) (v := .int x5) (ty := .int) (C := RX2) (T := TX2) (N := 12) hx hb hts hi_X2 tyX2 tyX2_ok nmX2 hown hK hP hD hS 0 rfl rfl 8 (by decide) hf_41 (fun _ h9 => h9) rfl (by decide +kernel) rfl rfl (Nat.le_of_ble_eq_true rfl) dX2_sink_39 (fun H locs hP hD hS => ?_)
    have hP : va_P D vwCl [(a0, .inr (2, [w0_0, .ref a2, w0_2, w0_3, w0_4, w0_5, w0_6, w0_7, .int x5, w0_9, w0_10, w0_11])), (a2, .inl (cI, 36, .inl y4))] H := hP
    have hD : va_D A [(a0, .inr (2, [w0_0, .ref a2, w0_2, w0_3, w0_4, w0_5, w0_6, w0_7, .int x5, w0_9, w0_10, w0_11])), (a2, .inl (cI, 36, .inl y4))] := hD
    refine lv_iload_n hx hb dX2_sink_42 rfl (lv_at hl 1 rfl) ?_
    have hres := Option.some.inj hsp
    subst hres
    exact W.iret (v := r1) hx hb hr (fun t ht hW => ⟨⟨r1, (), rfl, rfl, P_at ht hP⟩, hS.F ht⟩) hS.2.2 dX2_sink_43
  have hl := lv_sub hl (l' := [(0, .ref a0), (1, .int u1), (2, .int r1), (3, .int 0)]) [2, 3, 1, 0] rfl
  refine lp_rule (D := D) (F := s_X2_sink_L1 u1 (s_X2_sink_X1 g0_8 r1)) (P := fun (tv : Int32 × (Nat → Int32)) => [(a0, .inr (2, [w0_0, .ref a2, w0_2, w0_3, w0_4, w0_5, w0_6, w0_7, .int g0_8, w0_9, w0_10, w0_11])), (a2, .inl (cI, 36, .inl tv.2))]) (L := fun (tv : Int32 × (Nat → Int32)) => [(0, .ref a0), (1, .int u1), (2, .int r1), (3, .int tv.1)]) (nL := 4) (res := res) (A := A) (H0 := s.heap) (fun _ => rfl) ?_ 1000 (0, f2) _ _ hsp hP hD hS _ hl
  · intro n1 ih1 tv H locs hsp hP hD hS ls hl
    obtain ⟨x2, y3⟩ := tv
    have hsp : s_X2_sink_B1  u1 (s_X2_sink_X1 g0_8 r1) (s_X2_sink_L1 u1 (s_X2_sink_X1 g0_8 r1) n1) x2 y3 = some res := hsp
    unfold s_X2_sink_B1 at hsp
    have hP : va_P D vwCl [(a0, .inr (2, [w0_0, .ref a2, w0_2, w0_3, w0_4, w0_5, w0_6, w0_7, .int g0_8, w0_9, w0_10, w0_11])), (a2, .inl (cI, 36, .inl y3))] H := hP
    have hD : va_D A [(a0, .inr (2, [w0_0, .ref a2, w0_2, w0_3, w0_4, w0_5, w0_6, w0_7, .int g0_8, w0_9, w0_10, w0_11])), (a2, .inl (cI, 36, .inl y3))] := hD
    have hl : lv_has ls 4 [(0, .ref a0), (1, .int u1), (2, .int r1), (3, .int x2)] := hl
    refine lv_iload_n hx hb dX2_sink_8 rfl (lv_at hl 3 rfl) ?_
    refine lv_iconst (v := 4) hx hb dX2_sink_9 (by decide) ?_
    refine lv_icmp_ge (tgt := 32) hx hb dX2_sink_10 (by decide) (fun c6 => ?_) (fun c6 => ?_)
    · have hsp := itT hsp c6
      exact hx1 y3 _ _ hsp hP hD hS _ (lv_sub hl [0, 2] rfl)
    have hsp := itF hsp c6
    refine lv_aload_n hx hb dX2_sink_13 rfl (lv_at hl 0 rfl) ?_
    refine va_get (D := D) (ci := 2) (v := .ref a2) (C := RX2) (T := TX2) (N := 12) hx hb hts hi_X2 hown hK hP 0 rfl rfl 1 (by decide) hf_19 (fun _ h9 => h9) rfl dX2_sink_14 ?_
    refine lv_iload_n hx hb dX2_sink_17 rfl (lv_at hl 1 rfl) ?_
    refine lv_iconst (v := 4) hx hb dX2_sink_18 (by decide) ?_
    refine lv_imul hx hb dX2_sink_19 ?_
    refine lv_iload_n hx hb dX2_sink_20 rfl (lv_at hl 3 rfl) ?_
    refine lv_iadd hx hb dX2_sink_21 ?_
    refine lv_iconst (v := 0) hx hb dX2_sink_22 (by decide) ?_
    obtain ⟨r7, hcr7, hsp⟩ := clE hsp
    refine call_v (w1 := [(a2, .inl (cI, 36, .inl r7))]) (ws' := [(a0, .inr (2, [w0_0, .ref a2, w0_2, w0_3, w0_4, w0_5, w0_6, w0_7, .int g0_8, w0_9, w0_10, w0_11])), (a2, .inl (cI, 36, .inl r7))]) (va_runSN (As := [.ref a2, .int ((u1 * 4) + x2), .int 0]) (rest := []) ⟨hx, hb, hml, hown, hts⟩ (k_X4_write l D cI cZ cC cS H.size a2 36 y3 ((u1 * 4) + x2) 0 r7 hcr7) ⟨va_cnB 3 hts gX2_sink_X4_write_n15 rfl rfl rfl (mn_Studio_15 hKU.2.2) hin_X4 nd_X4_write.2 ⟨Nat.le_of_ble_eq_true rfl, Nat.le_of_ble_eq_true rfl⟩, hst_X4_write, trivial⟩ (PB.preS hKU hP hD [1] rfl rfl) rfl rfl hl.1 rfl (lv_room (Nat.le_of_ble_eq_true rfl)) dX2_sink_23 ⟨Nat.zero_le _, Nat.zero_le _⟩) hS hP hD hA [1] rfl rfl (by first | (simp only [wset, List.set_cons_zero, List.set_cons_succ]; done) | rfl) rfl (fun H locs hP hD hS => ?_)
    obtain ⟨x8, ex8, hsp⟩ := nmE hsp
    refine lv_iinc (k := 3) (v := x8) (lv' := [(3, .int x8), (0, .ref a0), (1, .int u1), (2, .int r1)]) hx hb dX2_sink_26 hl rfl (by rw [ex8]; rfl) (by decide) rfl (fun ls hl => ?_)
    refine lv_goto (tgt := 8) hx hb dX2_sink_29 (by decide) ?_
    exact ih1 (x8, r7) _ _ hsp hP hD hS _ (lv_sub hl [1, 2, 3, 0] rfl)

theorem nd_X2_emptyPot : yX2_emptyPot.cls = RX2 ∧ yX2_emptyPot.cls ≠ "java/lang/invoke/MethodHandle" ∧ yX2_emptyPot.cls ≠ "java/lang/invoke/VarHandle" ∧ (parseMethodDescriptor yX2_emptyPot.desc).map (fun d => d.parameters.length) = some 1 := by decide +kernel
set_option maxHeartbeats 8000000 in
set_option maxRecDepth 100000 in
theorem k_X2_emptyPot (l : Launch) (D : va_G) (cI cZ cC cS : ClassId) (sz : Nat) (a0 a2 : Nat) (w0_0 : Value) (w0_2 : Value) (w0_3 : Value) (w0_4 : Value) (w0_5 : Value) (w0_6 : Value) (w0_7 : Value) (g0_8 : Int32) (w0_9 : Value) (w0_10 : Value) (w0_11 : Value) (f2 : Nat → Int32) (u1 : Int32) (res : Int32 × Int32 × (Nat → Int32)) (hsp : s_X2_emptyPot g0_8 f2 u1 = some res) : Met l yX2_emptyPot wsX2_emptyPot ({ frames := 2, cells := 0, slots := 0, locals := 45 }) (va_Pc [.ref a0, .int u1] (PB D cI cZ cC cS [(a0, .inr (2, [w0_0, .ref a2, w0_2, w0_3, w0_4, w0_5, w0_6, w0_7, .int g0_8, w0_9, w0_10, w0_11])), (a2, .inl (cI, 36, .inl f2))] sz)) (va_Qi (fun r (_ : Unit) => r = res.1) (fun _ t => va_P D vwCl [(a0, .inr (2, [w0_0, .ref a2, w0_2, w0_3, w0_4, w0_5, w0_6, w0_7, .int res.2.1, w0_9, w0_10, w0_11])), (a2, .inl (cI, 36, .inl res.2.2))] t.heap) (va_A [(a0, .inr (2, [w0_0, .ref a2, w0_2, w0_3, w0_4, w0_5, w0_6, w0_7, .int g0_8, w0_9, w0_10, w0_11])), (a2, .inl (cI, 36, .inl f2))] sz)) 0 0 (va_A [(a0, .inr (2, [w0_0, .ref a2, w0_2, w0_3, w0_4, w0_5, w0_6, w0_7, .int g0_8, w0_9, w0_10, w0_11])), (a2, .inl (cI, 36, .inl f2))] sz) := by
  refine Met.ofW (cc := cX2_emptyPot) (maxL := 2) (ret := (some .int)) (by decide) rfl ?_
  intro p e s m args below meth c s₁ B hml hv
  obtain ⟨rfl, hsz, hP, hD0, hKU⟩ := hv
  have hx := B.exec
  have hb := B.bytes
  have hr := B.returns
  have hts := atoms_spec (ws := wsX2_emptyPot) B.pre
  have hown : s.vm.findClass RX2 = some m.cls := findClass_of_methodNamed B.named
  have hlocks := B.notSynchronized
  have hK := hKU.1
  have hst_X4_isWithin := hts (.static yX4_isWithin) (by decide +kernel)
  have hin_X4 := hts (.initialized RX4) (by decide +kernel)
  subst hsz
  have hD := hD0.self (sz := s.heap.size)
  generalize hAe : va_A [(a0, .inr (2, [w0_0, .ref a2, w0_2, w0_3, w0_4, w0_5, w0_6, w0_7, .int g0_8, w0_9, w0_10, w0_11])), (a2, .inl (cI, 36, .inl f2))] s.heap.size = A at hD ⊢
  have hA : ∀ q : Nat, s.heap.size ≤ q → A q := fun q h => by rw [← hAe]; exact Or.inr h
  have hP : va_P D vwCl [(a0, .inr (2, [w0_0, .ref a2, w0_2, w0_3, w0_4, w0_5, w0_6, w0_7, .int g0_8, w0_9, w0_10, w0_11])), (a2, .inl (cI, 36, .inl f2))] s.heap := hP
  generalize hHe : s.heap = H at hP ⊢
  have hS : va_S A s.heap H [] := by rw [hHe]; exact va_S.rf
  have hl := lv_entry ([.ref a0, .int u1]) (n := 2) (Nat.le_of_ble_eq_true rfl)
  rw [lg_entry_eq]
  generalize (lg_sl ([.ref a0, .int u1]) ++ List.replicate (2 - (lg_sl ([.ref a0, .int u1])).length) Slot.unset).toArray = ls at hl ⊢
  have hl : lv_has ls 2 [(0, .ref a0), (1, .int u1)] := hl
  unfold s_X2_emptyPot at hsp
  refine lv_iload_n hx hb dX2_emptyPot_0 rfl (lv_at hl 1 rfl) ?_
  refine lv_bipush (v := 8) hx hb dX2_emptyPot_1 (by decide) ?_
  obtain ⟨r1, hcr1, hsp⟩ := clE hsp
  refine call_z (w1 := []) (ws' := [(a0, .inr (2, [w0_0, .ref a2, w0_2, w0_3, w0_4, w0_5, w0_6, w0_7, .int g0_8, w0_9, w0_10, w0_11])), (a2, .inl (cI, 36, .inl f2))]) (va_runSN (As := [.int u1, .int 8]) (rest := []) ⟨hx, hb, hml, hown, hts⟩ (k_X4_isWithin l D cI cZ cC cS H.size u1 8 r1 hcr1) ⟨va_cnB 2 hts gX2_emptyPot_X4_isWithin_n65 rfl rfl rfl (mn_Studio_65 hKU.2.2) hin_X4 nd_X4_isWithin.2 ⟨Nat.le_of_ble_eq_true rfl, Nat.le_of_ble_eq_true rfl⟩, hst_X4_isWithin, trivial⟩ (PB.preS hKU hP hD [] rfl rfl) rfl rfl hl.1 rfl (lv_room (Nat.le_of_ble_eq_true rfl)) dX2_emptyPot_3 ⟨Nat.zero_le _, Nat.zero_le _⟩) hS hP hD hA [] rfl rfl (by first | (simp only [wset, List.set_cons_zero, List.set_cons_succ]; done) | rfl) rfl (fun H locs hP hD hS hzr1 => ?_)
  refine lv_if_ne (tgt := 11) hx hb dX2_emptyPot_6 (by decide) (fun c2 => ?_) (fun c2 => ?_)
  · have hsp := itF hsp c2
    refine lv_aload_n hx hb dX2_emptyPot_11 rfl (lv_at hl 0 rfl) ?_
    refine lv_iload_n hx hb dX2_emptyPot_12 rfl (lv_at hl 1 rfl) ?_
    obtain ⟨r3, hcr3, hsp⟩ := clE hsp
    refine call_i (w1 := [(a0, .inr (2, [w0_0, .ref a2, w0_2, w0_3, w0_4, w0_5, w0_6, w0_7, .int r3.2.1, w0_9, w0_10, w0_11])), (a2, .inl (cI, 36, .inl r3.2.2))]) (ws' := [(a0, .inr (2, [w0_0, .ref a2, w0_2, w0_3, w0_4, w0_5, w0_6, w0_7, .int r3.2.1, w0_9, w0_10, w0_11])), (a2, .inl (cI, 36, .inl r3.2.2))]) (va_runV (As := [.int u1]) (rest := []) ⟨hx, hb, hml, hown, hts⟩ (k_X2_sink l D cI cZ cC cS H.size a0 a2 (w0_0) (w0_2) (w0_3) (w0_4) (w0_5) (w0_6) (w0_7) g0_8 (w0_9) (w0_10) (w0_11) f2 u1 r3 hcr3) (cwV 1 hts gX2_emptyPot_X2_sink rfl rfl rfl nd_X2_sink ⟨Nat.le_of_ble_eq_true rfl, Nat.le_of_ble_eq_true rfl⟩) (PB.preV (ci := 2) (q0 := 0) hKU hP hD [0, 1] rfl rfl rfl rfl) rfl rfl hl.1 rfl (lv_room (Nat.le_of_ble_eq_true rfl)) dX2_emptyPot_13 ⟨Nat.zero_le _, Nat.zero_le _⟩) hS hP hD hA [0, 1] rfl rfl (by first | (simp only [wset, List.set_cons_zero, List.set_cons_succ]; done) | rfl) rfl (fun H locs hP hD hS => ?_)
    have hres := Option.some.inj hsp
    subst hres
    exact W.iret (v := r3.1) hx hb hr (fun t ht hW => ⟨⟨r3.1, (), rfl, rfl, P_at ht hP⟩, hS.F ht⟩) hS.2.2 dX2_emptyPot_16
  have hsp := itT hsp c2
  refine lv_iconst (v := (-1)) hx hb dX2_emptyPot_9 (by decide) ?_
  have hres := Option.some.inj hsp
  subst hres
  exact W.iret (v := (-1)) hx hb hr (fun t ht hW => ⟨⟨(-1), (), rfl, rfl, P_at ht hP⟩, hS.F ht⟩) hS.2.2 dX2_emptyPot_10

theorem nd_X2_init : yX2_init.cls = RX2 ∧ yX2_init.cls ≠ "java/lang/invoke/MethodHandle" ∧ yX2_init.cls ≠ "java/lang/invoke/VarHandle" ∧ (parseMethodDescriptor yX2_init.desc).map (fun d => d.parameters.length) = some 0 := by decide +kernel
set_option maxHeartbeats 8000000 in
set_option maxRecDepth 100000 in
theorem k_X2_init (l : Launch) (D : va_G) (cI cZ cC cS : ClassId) (sz : Nat) (a0 : Nat) (res : (Nat → Int32)) (hsp : s_X2_init = some res) : Met l yX2_init wsX2_init ({ frames := 1, cells := 8, slots := 96, locals := 24 }) (va_Pc [.ref a0] (PB D cI cZ cC cS [(a0, .inr (2, [.null, .null, .null, .null, .null, .null, .int 0, .int 0, .int 0, .int 0, .null, .null]))] sz)) (va_Qv (fun (_ : Unit) => True) (fun _ t => ∃ bz : Nat → Nat, va_P D vwCl [(a0, .inr (2, [.ref (bz 0), .ref (bz 1), .ref (bz 2), .ref (bz 3), .ref (bz 4), .ref (bz 5), .int 0, .int 0, .int 0, .int 0, .ref (bz 6), .ref (bz 7)])), ((bz 0), .inl (cI, 2, .inl res)), ((bz 1), .inl (cI, 36, .inl (fun _ => 0))), ((bz 2), .inl (cI, 8, .inl (fun _ => 0))), ((bz 3), .inl (cI, 18, .inl (fun _ => 0))), ((bz 4), .inl (cI, 18, .inl (fun _ => 0))), ((bz 5), .inl (cI, 6, .inl (fun _ => 0))), ((bz 6), .inl (cI, 4, .inl (fun _ => 0))), ((bz 7), .inl (cI, 4, .inl (fun _ => 0)))] t.heap ∧ va_D (va_A [(a0, .inr (2, [.null, .null, .null, .null, .null, .null, .int 0, .int 0, .int 0, .int 0, .null, .null]))] sz) [(a0, .inr (2, [.ref (bz 0), .ref (bz 1), .ref (bz 2), .ref (bz 3), .ref (bz 4), .ref (bz 5), .int 0, .int 0, .int 0, .int 0, .ref (bz 6), .ref (bz 7)])), ((bz 0), .inl (cI, 2, .inl res)), ((bz 1), .inl (cI, 36, .inl (fun _ => 0))), ((bz 2), .inl (cI, 8, .inl (fun _ => 0))), ((bz 3), .inl (cI, 18, .inl (fun _ => 0))), ((bz 4), .inl (cI, 18, .inl (fun _ => 0))), ((bz 5), .inl (cI, 6, .inl (fun _ => 0))), ((bz 6), .inl (cI, 4, .inl (fun _ => 0))), ((bz 7), .inl (cI, 4, .inl (fun _ => 0)))]) (va_A [(a0, .inr (2, [.null, .null, .null, .null, .null, .null, .int 0, .int 0, .int 0, .int 0, .null, .null]))] sz)) 8 96 (va_A [(a0, .inr (2, [.null, .null, .null, .null, .null, .null, .int 0, .int 0, .int 0, .int 0, .null, .null]))] sz) := by
  refine Met.ofW (cc := cX2_init) (maxL := 1) (ret := none) (by decide) rfl ?_
  intro p e s m args below meth c s₁ B hml hv
  obtain ⟨rfl, hsz, hP, hD0, hKU⟩ := hv
  have hx := B.exec
  have hb := B.bytes
  have hr := B.returns
  have hts := atoms_spec (ws := wsX2_init) B.pre
  have hown : s.vm.findClass RX2 = some m.cls := findClass_of_methodNamed B.named
  have hlocks := B.notSynchronized
  have hK := hKU.1
  have hin : meth.name = "<init>" := (name_of_methodNamed B.named B.method).1
  have ho_l3 := hts (.methodLink RX2 3 objectInit) (by decide +kernel)
  have ho_i := hts (.instanceMethod objectInit) (by decide +kernel)
  have ho_c := hts (.code objectInit ⟨#[0xb1]⟩ 1 none) (by decide +kernel)
  have har_I := hts (.arrayClass .int) (by decide +kernel)
  have hf_9 := hts (.fieldLink RX2 9 "ThinnedPots$Studio" "settings" "[I") (by decide +kernel)
  have hi_X2 : ∀ w ∈ u_ws RX2 TX2 12, w ∈ wsX2_init := by decide +kernel
  have hst_X4_write := hts (.static yX4_write) (by decide +kernel)
  have hin_X4 := hts (.initialized RX4) (by decide +kernel)
  have hf_19 := hts (.fieldLink RX2 19 "ThinnedPots$Studio" "drops" "[I") (by decide +kernel)
  have hf_22 := hts (.fieldLink RX2 22 "ThinnedPots$Studio" "thinnings" "[I") (by decide +kernel)
  have hf_25 := hts (.fieldLink RX2 25 "ThinnedPots$Studio" "wanted" "[I") (by decide +kernel)
  have hf_28 := hts (.fieldLink RX2 28 "ThinnedPots$Studio" "painted" "[I") (by decide +kernel)
  have hf_31 := hts (.fieldLink RX2 31 "ThinnedPots$Studio" "strokes" "[I") (by decide +kernel)
  have hf_34 := hts (.fieldLink RX2 34 "ThinnedPots$Studio" "dropsPutIn" "I") (by decide +kernel)
  have hf_38 := hts (.fieldLink RX2 38 "ThinnedPots$Studio" "dropsOnPanels" "I") (by decide +kernel)
  have hf_41 := hts (.fieldLink RX2 41 "ThinnedPots$Studio" "dropsRinsed" "I") (by decide +kernel)
  have hf_44 := hts (.fieldLink RX2 44 "ThinnedPots$Studio" "rinsesWithDrops" "I") (by decide +kernel)
  have hf_47 := hts (.fieldLink RX2 47 "ThinnedPots$Studio" "taken" "[I") (by decide +kernel)
  have hf_50 := hts (.fieldLink RX2 50 "ThinnedPots$Studio" "leftOver" "[I") (by decide +kernel)
  subst hsz
  have hD := hD0.self (sz := s.heap.size)
  generalize hAe : va_A [(a0, .inr (2, [.null, .null, .null, .null, .null, .null, .int 0, .int 0, .int 0, .int 0, .null, .null]))] s.heap.size = A at hD ⊢
  have hA : ∀ q : Nat, s.heap.size ≤ q → A q := fun q h => by rw [← hAe]; exact Or.inr h
  have hP : va_P D vwCl [(a0, .inr (2, [.null, .null, .null, .null, .null, .null, .int 0, .int 0, .int 0, .int 0, .null, .null]))] s.heap := hP
  generalize hHe : s.heap = H at hP ⊢
  have hS : va_S A s.heap H [] := by rw [hHe]; exact va_S.rf
  have hl := lv_entry ([.ref a0]) (n := 1) (Nat.le_of_ble_eq_true rfl)
  rw [lg_entry_eq]
  generalize (lg_sl ([.ref a0]) ++ List.replicate (1 - (lg_sl ([.ref a0])).length) Slot.unset).toArray = ls at hl ⊢
  have hl : lv_has ls 1 [(0, .ref a0)] := hl
  unfold s_X2_init at hsp
  refine lv_aload_n hx hb dX2_init_0 rfl (lv_at hl 0 rfl) ?_
  refine W.objInit hx hb hown ho_l3 ho_i ho_c rfl (by rw [hml]; exact hl.1) rfl dX2_init_1 (Nat.le_of_ble_eq_true rfl) (Nat.le_of_ble_eq_true rfl) ?_
  refine W.eq (g2 := F0 m 4 ls []) rfl ?_
  refine lv_aload_n hx hb dX2_init_4 rfl (lv_at hl 0 rfl) ?_
  refine lv_iconst (v := 2) hx hb dX2_init_5 (by decide) ?_
  refine r_newaI (N' := 2) hx hb har_I hK hP hD hS hA (by decide) rfl (Nat.le_of_ble_eq_true rfl) (Nat.le_of_ble_eq_true rfl) (Nat.le_of_ble_eq_true rfl) dX2_init_6 (fun z1 H hP hD hS => ?_)
  have hP : va_P D vwCl [(a0, .inr (2, [.null, .null, .null, .null, .null, .null, .int 0, .int 0, .int 0, .int 0, .null, .null])), (z1, .inl (cI, 2, .inl (fun _ => 0)))] H := hP
  have hD : va_D A [(a0, .inr (2, [.null, .null, .null, .null, .null, .null, .int 0, .int 0, .int 0, .int 0, .null, .null])), (z1, .inl (cI, 2, .inl (fun _ => 0)))] := hD
  refine W.widen (k := 1) (n := 2) (Nat.le_of_ble_eq_true rfl) (Nat.le_of_ble_eq_true rfl) ?_
  refine va_putF (D := D) (ci := 2) (v := .ref z1) (ty := .array .int) (C := RX2) (T := TX2) (N := 12) hx hb hts hi_X2 tyX2 tyX2_ok nmX2 hown hK hP hD hS 0 rfl rfl 0 (by decide) hf_9 (fun _ h9 => h9) rfl hin rfl (by decide +kernel) rfl rfl (Nat.le_of_ble_eq_true rfl) dX2_init_8 (fun H locs hP hD hS => ?_)
  have hP : va_P D vwCl [(a0, .inr (2, [.ref z1, .null, .null, .null, .null, .null, .int 0, .int 0, .int 0, .int 0, .null, .null])), (z1, .inl (cI, 2, .inl (fun _ => 0)))] H := hP
  have hD : va_D A [(a0, .inr (2, [.ref z1, .null, .null, .null, .null, .null, .int 0, .int 0, .int 0, .int 0, .null, .null])), (z1, .inl (cI, 2, .inl (fun _ => 0)))] := hD
  refine lv_aload_n hx hb dX2_init_11 rfl (lv_at hl 0 rfl) ?_
  refine va_get (D := D) (ci := 2) (v := .ref z1) (C := RX2) (T := TX2) (N := 12) hx hb hts hi_X2 hown hK hP 0 rfl rfl 0 (by decide) hf_9 (fun _ h9 => h9) rfl dX2_init_12 ?_
  refine lv_iconst (v := 0) hx hb dX2_init_15 (by decide) ?_
  refine lv_iconst (v := 3) hx hb dX2_init_16 (by decide) ?_
  obtain ⟨r1, hcr1, hsp⟩ := clE hsp
  refine call_v (w1 := [(z1, .inl (cI, 2, .inl r1))]) (ws' := [(a0, .inr (2, [.ref z1, .null, .null, .null, .null, .null, .int 0, .int 0, .int 0, .int 0, .null, .null])), (z1, .inl (cI, 2, .inl r1))]) (va_runSN (As := [.ref z1, .int 0, .int 3]) (rest := []) ⟨hx, hb, hml, hown, hts⟩ (k_X4_write l D cI cZ cC cS H.size z1 2 (fun _ => 0) 0 3 r1 hcr1) ⟨va_cnB 3 hts gX2_init_X4_write_n15 rfl rfl rfl (mn_Studio_15 hKU.2.2) hin_X4 nd_X4_write.2 ⟨Nat.le_of_ble_eq_true rfl, Nat.le_of_ble_eq_true rfl⟩, hst_X4_write, trivial⟩ (PB.preS hKU hP hD [1] rfl rfl) rfl rfl hl.1 rfl (lv_room (Nat.le_of_ble_eq_true rfl)) dX2_init_17 ⟨Nat.le_of_ble_eq_true rfl, Nat.le_of_ble_eq_true rfl⟩) hS hP hD hA [1] rfl rfl (by first | (simp only [wset, List.set_cons_zero, List.set_cons_succ]; done) | rfl) rfl (fun H locs hP hD hS => ?_)
  refine lv_aload_n hx hb dX2_init_20 rfl (lv_at hl 0 rfl) ?_
  refine va_get (D := D) (ci := 2) (v := .ref z1) (C := RX2) (T := TX2) (N := 12) hx hb hts hi_X2 hown hK hP 0 rfl rfl 0 (by decide) hf_9 (fun _ h9 => h9) rfl dX2_init_21 ?_
  refine lv_iconst (v := 1) hx hb dX2_init_24 (by decide) ?_
  refine lv_bipush (v := 15) hx hb dX2_init_25 (by decide) ?_
  obtain ⟨r2, hcr2, hsp⟩ := clE hsp
  refine call_v (w1 := [(z1, .inl (cI, 2, .inl r2))]) (ws' := [(a0, .inr (2, [.ref z1, .null, .null, .null, .null, .null, .int 0, .int 0, .int 0, .int 0, .null, .null])), (z1, .inl (cI, 2, .inl r2))]) (va_runSN (As := [.ref z1, .int 1, .int 15]) (rest := []) ⟨hx, hb, hml, hown, hts⟩ (k_X4_write l D cI cZ cC cS H.size z1 2 r1 1 15 r2 hcr2) ⟨va_cnB 3 hts gX2_init_X4_write_n15 rfl rfl rfl (mn_Studio_15 hKU.2.2) hin_X4 nd_X4_write.2 ⟨Nat.le_of_ble_eq_true rfl, Nat.le_of_ble_eq_true rfl⟩, hst_X4_write, trivial⟩ (PB.preS hKU hP hD [1] rfl rfl) rfl rfl hl.1 rfl (lv_room (Nat.le_of_ble_eq_true rfl)) dX2_init_27 ⟨Nat.le_of_ble_eq_true rfl, Nat.le_of_ble_eq_true rfl⟩) hS hP hD hA [1] rfl rfl (by first | (simp only [wset, List.set_cons_zero, List.set_cons_succ]; done) | rfl) rfl (fun H locs hP hD hS => ?_)
  refine lv_aload_n hx hb dX2_init_30 rfl (lv_at hl 0 rfl) ?_
  refine lv_bipush (v := 36) hx hb dX2_init_31 (by decide) ?_
  refine r_newaI (N' := 36) hx hb har_I hK hP hD hS hA (by decide) rfl (Nat.le_of_ble_eq_true rfl) (Nat.le_of_ble_eq_true rfl) (Nat.le_of_ble_eq_true rfl) dX2_init_33 (fun z2 H hP hD hS => ?_)
  have hP : va_P D vwCl [(a0, .inr (2, [.ref z1, .null, .null, .null, .null, .null, .int 0, .int 0, .int 0, .int 0, .null, .null])), (z1, .inl (cI, 2, .inl r2)), (z2, .inl (cI, 36, .inl (fun _ => 0)))] H := hP
  have hD : va_D A [(a0, .inr (2, [.ref z1, .null, .null, .null, .null, .null, .int 0, .int 0, .int 0, .int 0, .null, .null])), (z1, .inl (cI, 2, .inl r2)), (z2, .inl (cI, 36, .inl (fun _ => 0)))] := hD
  refine W.widen (k := 2) (n := 38) (Nat.le_of_ble_eq_true rfl) (Nat.le_of_ble_eq_true rfl) ?_
  refine va_putF (D := D) (ci := 2) (v := .ref z2) (ty := .array .int) (C := RX2) (T := TX2) (N := 12) hx hb hts hi_X2 tyX2 tyX2_ok nmX2 hown hK hP hD hS 0 rfl rfl 1 (by decide) hf_19 (fun _ h9 => h9) rfl hin rfl (by decide +kernel) rfl rfl (Nat.le_of_ble_eq_true rfl) dX2_init_35 (fun H locs hP hD hS => ?_)
  have hP : va_P D vwCl [(a0, .inr (2, [.ref z1, .ref z2, .null, .null, .null, .null, .int 0, .int 0, .int 0, .int 0, .null, .null])), (z1, .inl (cI, 2, .inl r2)), (z2, .inl (cI, 36, .inl (fun _ => 0)))] H := hP
  have hD : va_D A [(a0, .inr (2, [.ref z1, .ref z2, .null, .null, .null, .null, .int 0, .int 0, .int 0, .int 0, .null, .null])), (z1, .inl (cI, 2, .inl r2)), (z2, .inl (cI, 36, .inl (fun _ => 0)))] := hD
  refine lv_aload_n hx hb dX2_init_38 rfl (lv_at hl 0 rfl) ?_
  refine lv_bipush (v := 8) hx hb dX2_init_39 (by decide) ?_
  refine r_newaI (N' := 8) hx hb har_I hK hP hD hS hA (by decide) rfl (Nat.le_of_ble_eq_true rfl) (Nat.le_of_ble_eq_true rfl) (Nat.le_of_ble_eq_true rfl) dX2_init_41 (fun z3 H hP hD hS => ?_)
  have hP : va_P D vwCl [(a0, .inr (2, [.ref z1, .ref z2, .null, .null, .null, .null, .int 0, .int 0, .int 0, .int 0, .null, .null])), (z1, .inl (cI, 2, .inl r2)), (z2, .inl (cI, 36, .inl (fun _ => 0))), (z3, .inl (cI, 8, .inl (fun _ => 0)))] H := hP
  have hD : va_D A [(a0, .inr (2, [.ref z1, .ref z2, .null, .null, .null, .null, .int 0, .int 0, .int 0, .int 0, .null, .null])), (z1, .inl (cI, 2, .inl r2)), (z2, .inl (cI, 36, .inl (fun _ => 0))), (z3, .inl (cI, 8, .inl (fun _ => 0)))] := hD
  refine W.widen (k := 3) (n := 46) (Nat.le_of_ble_eq_true rfl) (Nat.le_of_ble_eq_true rfl) ?_
  refine va_putF (D := D) (ci := 2) (v := .ref z3) (ty := .array .int) (C := RX2) (T := TX2) (N := 12) hx hb hts hi_X2 tyX2 tyX2_ok nmX2 hown hK hP hD hS 0 rfl rfl 2 (by decide) hf_22 (fun _ h9 => h9) rfl hin rfl (by decide +kernel) rfl rfl (Nat.le_of_ble_eq_true rfl) dX2_init_43 (fun H locs hP hD hS => ?_)
  have hP : va_P D vwCl [(a0, .inr (2, [.ref z1, .ref z2, .ref z3, .null, .null, .null, .int 0, .int 0, .int 0, .int 0, .null, .null])), (z1, .inl (cI, 2, .inl r2)), (z2, .inl (cI, 36, .inl (fun _ => 0))), (z3, .inl (cI, 8, .inl (fun _ => 0)))] H := hP
  have hD : va_D A [(a0, .inr (2, [.ref z1, .ref z2, .ref z3, .null, .null, .null, .int 0, .int 0, .int 0, .int 0, .null, .null])), (z1, .inl (cI, 2, .inl r2)), (z2, .inl (cI, 36, .inl (fun _ => 0))), (z3, .inl (cI, 8, .inl (fun _ => 0)))] := hD
  refine lv_aload_n hx hb dX2_init_46 rfl (lv_at hl 0 rfl) ?_
  refine lv_bipush (v := 18) hx hb dX2_init_47 (by decide) ?_
  refine r_newaI (N' := 18) hx hb har_I hK hP hD hS hA (by decide) rfl (Nat.le_of_ble_eq_true rfl) (Nat.le_of_ble_eq_true rfl) (Nat.le_of_ble_eq_true rfl) dX2_init_49 (fun z4 H hP hD hS => ?_)
  have hP : va_P D vwCl [(a0, .inr (2, [.ref z1, .ref z2, .ref z3, .null, .null, .null, .int 0, .int 0, .int 0, .int 0, .null, .null])), (z1, .inl (cI, 2, .inl r2)), (z2, .inl (cI, 36, .inl (fun _ => 0))), (z3, .inl (cI, 8, .inl (fun _ => 0))), (z4, .inl (cI, 18, .inl (fun _ => 0)))] H := hP
  have hD : va_D A [(a0, .inr (2, [.ref z1, .ref z2, .ref z3, .null, .null, .null, .int 0, .int 0, .int 0, .int 0, .null, .null])), (z1, .inl (cI, 2, .inl r2)), (z2, .inl (cI, 36, .inl (fun _ => 0))), (z3, .inl (cI, 8, .inl (fun _ => 0))), (z4, .inl (cI, 18, .inl (fun _ => 0)))] := hD
  refine W.widen (k := 4) (n := 64) (Nat.le_of_ble_eq_true rfl) (Nat.le_of_ble_eq_true rfl) ?_
  refine va_putF (D := D) (ci := 2) (v := .ref z4) (ty := .array .int) (C := RX2) (T := TX2) (N := 12) hx hb hts hi_X2 tyX2 tyX2_ok nmX2 hown hK hP hD hS 0 rfl rfl 3 (by decide) hf_25 (fun _ h9 => h9) rfl hin rfl (by decide +kernel) rfl rfl (Nat.le_of_ble_eq_true rfl) dX2_init_51 (fun H locs hP hD hS => ?_)
  have hP : va_P D vwCl [(a0, .inr (2, [.ref z1, .ref z2, .ref z3, .ref z4, .null, .null, .int 0, .int 0, .int 0, .int 0, .null, .null])), (z1, .inl (cI, 2, .inl r2)), (z2, .inl (cI, 36, .inl (fun _ => 0))), (z3, .inl (cI, 8, .inl (fun _ => 0))), (z4, .inl (cI, 18, .inl (fun _ => 0)))] H := hP
  have hD : va_D A [(a0, .inr (2, [.ref z1, .ref z2, .ref z3, .ref z4, .null, .null, .int 0, .int 0, .int 0, .int 0, .null, .null])), (z1, .inl (cI, 2, .inl r2)), (z2, .inl (cI, 36, .inl (fun _ => 0))), (z3, .inl (cI, 8, .inl (fun _ => 0))), (z4, .inl (cI, 18, .inl (fun _ => 0)))] := hD
  refine lv_aload_n hx hb dX2_init_54 rfl (lv_at hl 0 rfl) ?_
  refine lv_bipush (v := 18) hx hb dX2_init_55 (by decide) ?_
  refine r_newaI (N' := 18) hx hb har_I hK hP hD hS hA (by decide) rfl (Nat.le_of_ble_eq_true rfl) (Nat.le_of_ble_eq_true rfl) (Nat.le_of_ble_eq_true rfl) dX2_init_57 (fun z5 H hP hD hS => ?_)
  have hP : va_P D vwCl [(a0, .inr (2, [.ref z1, .ref z2, .ref z3, .ref z4, .null, .null, .int 0, .int 0, .int 0, .int 0, .null, .null])), (z1, .inl (cI, 2, .inl r2)), (z2, .inl (cI, 36, .inl (fun _ => 0))), (z3, .inl (cI, 8, .inl (fun _ => 0))), (z4, .inl (cI, 18, .inl (fun _ => 0))), (z5, .inl (cI, 18, .inl (fun _ => 0)))] H := hP
  have hD : va_D A [(a0, .inr (2, [.ref z1, .ref z2, .ref z3, .ref z4, .null, .null, .int 0, .int 0, .int 0, .int 0, .null, .null])), (z1, .inl (cI, 2, .inl r2)), (z2, .inl (cI, 36, .inl (fun _ => 0))), (z3, .inl (cI, 8, .inl (fun _ => 0))), (z4, .inl (cI, 18, .inl (fun _ => 0))), (z5, .inl (cI, 18, .inl (fun _ => 0)))] := hD
  refine W.widen (k := 5) (n := 82) (Nat.le_of_ble_eq_true rfl) (Nat.le_of_ble_eq_true rfl) ?_
  refine va_putF (D := D) (ci := 2) (v := .ref z5) (ty := .array .int) (C := RX2) (T := TX2) (N := 12) hx hb hts hi_X2 tyX2 tyX2_ok nmX2 hown hK hP hD hS 0 rfl rfl 4 (by decide) hf_28 (fun _ h9 => h9) rfl hin rfl (by decide +kernel) rfl rfl (Nat.le_of_ble_eq_true rfl) dX2_init_59 (fun H locs hP hD hS => ?_)
  have hP : va_P D vwCl [(a0, .inr (2, [.ref z1, .ref z2, .ref z3, .ref z4, .ref z5, .null, .int 0, .int 0, .int 0, .int 0, .null, .null])), (z1, .inl (cI, 2, .inl r2)), (z2, .inl (cI, 36, .inl (fun _ => 0))), (z3, .inl (cI, 8, .inl (fun _ => 0))), (z4, .inl (cI, 18, .inl (fun _ => 0))), (z5, .inl (cI, 18, .inl (fun _ => 0)))] H := hP
  have hD : va_D A [(a0, .inr (2, [.ref z1, .ref z2, .ref z3, .ref z4, .ref z5, .null, .int 0, .int 0, .int 0, .int 0, .null, .null])), (z1, .inl (cI, 2, .inl r2)), (z2, .inl (cI, 36, .inl (fun _ => 0))), (z3, .inl (cI, 8, .inl (fun _ => 0))), (z4, .inl (cI, 18, .inl (fun _ => 0))), (z5, .inl (cI, 18, .inl (fun _ => 0)))] := hD
  refine lv_aload_n hx hb dX2_init_62 rfl (lv_at hl 0 rfl) ?_
  refine lv_bipush (v := 6) hx hb dX2_init_63 (by decide) ?_
  refine r_newaI (N' := 6) hx hb har_I hK hP hD hS hA (by decide) rfl (Nat.le_of_ble_eq_true rfl) (Nat.le_of_ble_eq_true rfl) (Nat.le_of_ble_eq_true rfl) dX2_init_65 (fun z6 H hP hD hS => ?_)
  have hP : va_P D vwCl [(a0, .inr (2, [.ref z1, .ref z2, .ref z3, .ref z4, .ref z5, .null, .int 0, .int 0, .int 0, .int 0, .null, .null])), (z1, .inl (cI, 2, .inl r2)), (z2, .inl (cI, 36, .inl (fun _ => 0))), (z3, .inl (cI, 8, .inl (fun _ => 0))), (z4, .inl (cI, 18, .inl (fun _ => 0))), (z5, .inl (cI, 18, .inl (fun _ => 0))), (z6, .inl (cI, 6, .inl (fun _ => 0)))] H := hP
  have hD : va_D A [(a0, .inr (2, [.ref z1, .ref z2, .ref z3, .ref z4, .ref z5, .null, .int 0, .int 0, .int 0, .int 0, .null, .null])), (z1, .inl (cI, 2, .inl r2)), (z2, .inl (cI, 36, .inl (fun _ => 0))), (z3, .inl (cI, 8, .inl (fun _ => 0))), (z4, .inl (cI, 18, .inl (fun _ => 0))), (z5, .inl (cI, 18, .inl (fun _ => 0))), (z6, .inl (cI, 6, .inl (fun _ => 0)))] := hD
  refine W.widen (k := 6) (n := 88) (Nat.le_of_ble_eq_true rfl) (Nat.le_of_ble_eq_true rfl) ?_
  refine va_putF (D := D) (ci := 2) (v := .ref z6) (ty := .array .int) (C := RX2) (T := TX2) (N := 12) hx hb hts hi_X2 tyX2 tyX2_ok nmX2 hown hK hP hD hS 0 rfl rfl 5 (by decide) hf_31 (fun _ h9 => h9) rfl hin rfl (by decide +kernel) rfl rfl (Nat.le_of_ble_eq_true rfl) dX2_init_67 (fun H locs hP hD hS => ?_)
  have hP : va_P D vwCl [(a0, .inr (2, [.ref z1, .ref z2, .ref z3, .ref z4, .ref z5, .ref z6, .int 0, .int 0, .int 0, .int 0, .null, .null])), (z1, .inl (cI, 2, .inl r2)), (z2, .inl (cI, 36, .inl (fun _ => 0))), (z3, .inl (cI, 8, .inl (fun _ => 0))), (z4, .inl (cI, 18, .inl (fun _ => 0))), (z5, .inl (cI, 18, .inl (fun _ => 0))), (z6, .inl (cI, 6, .inl (fun _ => 0)))] H := hP
  have hD : va_D A [(a0, .inr (2, [.ref z1, .ref z2, .ref z3, .ref z4, .ref z5, .ref z6, .int 0, .int 0, .int 0, .int 0, .null, .null])), (z1, .inl (cI, 2, .inl r2)), (z2, .inl (cI, 36, .inl (fun _ => 0))), (z3, .inl (cI, 8, .inl (fun _ => 0))), (z4, .inl (cI, 18, .inl (fun _ => 0))), (z5, .inl (cI, 18, .inl (fun _ => 0))), (z6, .inl (cI, 6, .inl (fun _ => 0)))] := hD
  refine lv_aload_n hx hb dX2_init_70 rfl (lv_at hl 0 rfl) ?_
  refine lv_iconst (v := 0) hx hb dX2_init_71 (by decide) ?_
  refine va_put (D := D) (ci := 2) (v := .int 0) (ty := .int) (C := RX2) (T := TX2) (N := 12) hx hb hts hi_X2 tyX2 tyX2_ok nmX2 hown hK hP hD hS 0 rfl rfl 6 (by decide) hf_34 (fun _ h9 => h9) rfl (by decide +kernel) rfl rfl (Nat.le_of_ble_eq_true rfl) dX2_init_72 (fun H locs hP hD hS => ?_)
  have hP : va_P D vwCl [(a0, .inr (2, [.ref z1, .ref z2, .ref z3, .ref z4, .ref z5, .ref z6, .int 0, .int 0, .int 0, .int 0, .null, .null])), (z1, .inl (cI, 2, .inl r2)), (z2, .inl (cI, 36, .inl (fun _ => 0))), (z3, .inl (cI, 8, .inl (fun _ => 0))), (z4, .inl (cI, 18, .inl (fun _ => 0))), (z5, .inl (cI, 18, .inl (fun _ => 0))), (z6, .inl (cI, 6, .inl (fun _ => 0)))] H := hP
  have hD : va_D A [(a0, .inr (2, [.ref z1, .ref z2, .ref z3, .ref z4, .ref z5, .ref z6, .int 0, .int 0, .int 0, .int 0, .null, .null])), (z1, .inl (cI, 2, .inl r2)), (z2, .inl (cI, 36, .inl (fun _ => 0))), (z3, .inl (cI, 8, .inl (fun _ => 0))), (z4, .inl (cI, 18, .inl (fun _ => 0))), (z5, .inl (cI, 18, .inl (fun _ => 0))), (z6, .inl (cI, 6, .inl (fun _ => 0)))] := hD
  refine lv_aload_n hx hb dX2_init_75 rfl (lv_at hl 0 rfl) ?_
  refine lv_iconst (v := 0) hx hb dX2_init_76 (by decide) ?_
  refine va_put (D := D) (ci := 2) (v := .int 0) (ty := .int) (C := RX2) (T := TX2) (N := 12) hx hb hts hi_X2 tyX2 tyX2_ok nmX2 hown hK hP hD hS 0 rfl rfl 7 (by decide) hf_38 (fun _ h9 => h9) rfl (by decide +kernel) rfl rfl (Nat.le_of_ble_eq_true rfl) dX2_init_77 (fun H locs hP hD hS => ?_)
  have hP : va_P D vwCl [(a0, .inr (2, [.ref z1, .ref z2, .ref z3, .ref z4, .ref z5, .ref z6, .int 0, .int 0, .int 0, .int 0, .null, .null])), (z1, .inl (cI, 2, .inl r2)), (z2, .inl (cI, 36, .inl (fun _ => 0))), (z3, .inl (cI, 8, .inl (fun _ => 0))), (z4, .inl (cI, 18, .inl (fun _ => 0))), (z5, .inl (cI, 18, .inl (fun _ => 0))), (z6, .inl (cI, 6, .inl (fun _ => 0)))] H := hP
  have hD : va_D A [(a0, .inr (2, [.ref z1, .ref z2, .ref z3, .ref z4, .ref z5, .ref z6, .int 0, .int 0, .int 0, .int 0, .null, .null])), (z1, .inl (cI, 2, .inl r2)), (z2, .inl (cI, 36, .inl (fun _ => 0))), (z3, .inl (cI, 8, .inl (fun _ => 0))), (z4, .inl (cI, 18, .inl (fun _ => 0))), (z5, .inl (cI, 18, .inl (fun _ => 0))), (z6, .inl (cI, 6, .inl (fun _ => 0)))] := hD
  refine lv_aload_n hx hb dX2_init_80 rfl (lv_at hl 0 rfl) ?_
  refine lv_iconst (v := 0) hx hb dX2_init_81 (by decide) ?_
  refine va_put (D := D) (ci := 2) (v := .int 0) (ty := .int) (C := RX2) (T := TX2) (N := 12) hx hb hts hi_X2 tyX2 tyX2_ok nmX2 hown hK hP hD hS 0 rfl rfl 8 (by decide) hf_41 (fun _ h9 => h9) rfl (by decide +kernel) rfl rfl (Nat.le_of_ble_eq_true rfl) dX2_init_82 (fun H locs hP hD hS => ?_)
  have hP : va_P D vwCl [(a0, .inr (2, [.ref z1, .ref z2, .ref z3, .ref z4, .ref z5, .ref z6, .int 0, .int 0, .int 0, .int 0, .null, .null])), (z1, .inl (cI, 2, .inl r2)), (z2, .inl (cI, 36, .inl (fun _ => 0))), (z3, .inl (cI, 8, .inl (fun _ => 0))), (z4, .inl (cI, 18, .inl (fun _ => 0))), (z5, .inl (cI, 18, .inl (fun _ => 0))), (z6, .inl (cI, 6, .inl (fun _ => 0)))] H := hP
  have hD : va_D A [(a0, .inr (2, [.ref z1, .ref z2, .ref z3, .ref z4, .ref z5, .ref z6, .int 0, .int 0, .int 0, .int 0, .null, .null])), (z1, .inl (cI, 2, .inl r2)), (z2, .inl (cI, 36, .inl (fun _ => 0))), (z3, .inl (cI, 8, .inl (fun _ => 0))), (z4, .inl (cI, 18, .inl (fun _ => 0))), (z5, .inl (cI, 18, .inl (fun _ => 0))), (z6, .inl (cI, 6, .inl (fun _ => 0)))] := hD
  refine lv_aload_n hx hb dX2_init_85 rfl (lv_at hl 0 rfl) ?_
  refine lv_iconst (v := 0) hx hb dX2_init_86 (by decide) ?_
  refine va_put (D := D) (ci := 2) (v := .int 0) (ty := .int) (C := RX2) (T := TX2) (N := 12) hx hb hts hi_X2 tyX2 tyX2_ok nmX2 hown hK hP hD hS 0 rfl rfl 9 (by decide) hf_44 (fun _ h9 => h9) rfl (by decide +kernel) rfl rfl (Nat.le_of_ble_eq_true rfl) dX2_init_87 (fun H locs hP hD hS => ?_)
  have hP : va_P D vwCl [(a0, .inr (2, [.ref z1, .ref z2, .ref z3, .ref z4, .ref z5, .ref z6, .int 0, .int 0, .int 0, .int 0, .null, .null])), (z1, .inl (cI, 2, .inl r2)), (z2, .inl (cI, 36, .inl (fun _ => 0))), (z3, .inl (cI, 8, .inl (fun _ => 0))), (z4, .inl (cI, 18, .inl (fun _ => 0))), (z5, .inl (cI, 18, .inl (fun _ => 0))), (z6, .inl (cI, 6, .inl (fun _ => 0)))] H := hP
  have hD : va_D A [(a0, .inr (2, [.ref z1, .ref z2, .ref z3, .ref z4, .ref z5, .ref z6, .int 0, .int 0, .int 0, .int 0, .null, .null])), (z1, .inl (cI, 2, .inl r2)), (z2, .inl (cI, 36, .inl (fun _ => 0))), (z3, .inl (cI, 8, .inl (fun _ => 0))), (z4, .inl (cI, 18, .inl (fun _ => 0))), (z5, .inl (cI, 18, .inl (fun _ => 0))), (z6, .inl (cI, 6, .inl (fun _ => 0)))] := hD
  refine lv_aload_n hx hb dX2_init_90 rfl (lv_at hl 0 rfl) ?_
  refine lv_iconst (v := 4) hx hb dX2_init_91 (by decide) ?_
  refine r_newaI (N' := 4) hx hb har_I hK hP hD hS hA (by decide) rfl (Nat.le_of_ble_eq_true rfl) (Nat.le_of_ble_eq_true rfl) (Nat.le_of_ble_eq_true rfl) dX2_init_92 (fun z7 H hP hD hS => ?_)
  have hP : va_P D vwCl [(a0, .inr (2, [.ref z1, .ref z2, .ref z3, .ref z4, .ref z5, .ref z6, .int 0, .int 0, .int 0, .int 0, .null, .null])), (z1, .inl (cI, 2, .inl r2)), (z2, .inl (cI, 36, .inl (fun _ => 0))), (z3, .inl (cI, 8, .inl (fun _ => 0))), (z4, .inl (cI, 18, .inl (fun _ => 0))), (z5, .inl (cI, 18, .inl (fun _ => 0))), (z6, .inl (cI, 6, .inl (fun _ => 0))), (z7, .inl (cI, 4, .inl (fun _ => 0)))] H := hP
  have hD : va_D A [(a0, .inr (2, [.ref z1, .ref z2, .ref z3, .ref z4, .ref z5, .ref z6, .int 0, .int 0, .int 0, .int 0, .null, .null])), (z1, .inl (cI, 2, .inl r2)), (z2, .inl (cI, 36, .inl (fun _ => 0))), (z3, .inl (cI, 8, .inl (fun _ => 0))), (z4, .inl (cI, 18, .inl (fun _ => 0))), (z5, .inl (cI, 18, .inl (fun _ => 0))), (z6, .inl (cI, 6, .inl (fun _ => 0))), (z7, .inl (cI, 4, .inl (fun _ => 0)))] := hD
  refine W.widen (k := 7) (n := 92) (Nat.le_of_ble_eq_true rfl) (Nat.le_of_ble_eq_true rfl) ?_
  refine va_putF (D := D) (ci := 2) (v := .ref z7) (ty := .array .int) (C := RX2) (T := TX2) (N := 12) hx hb hts hi_X2 tyX2 tyX2_ok nmX2 hown hK hP hD hS 0 rfl rfl 10 (by decide) hf_47 (fun _ h9 => h9) rfl hin rfl (by decide +kernel) rfl rfl (Nat.le_of_ble_eq_true rfl) dX2_init_94 (fun H locs hP hD hS => ?_)
  have hP : va_P D vwCl [(a0, .inr (2, [.ref z1, .ref z2, .ref z3, .ref z4, .ref z5, .ref z6, .int 0, .int 0, .int 0, .int 0, .ref z7, .null])), (z1, .inl (cI, 2, .inl r2)), (z2, .inl (cI, 36, .inl (fun _ => 0))), (z3, .inl (cI, 8, .inl (fun _ => 0))), (z4, .inl (cI, 18, .inl (fun _ => 0))), (z5, .inl (cI, 18, .inl (fun _ => 0))), (z6, .inl (cI, 6, .inl (fun _ => 0))), (z7, .inl (cI, 4, .inl (fun _ => 0)))] H := hP
  have hD : va_D A [(a0, .inr (2, [.ref z1, .ref z2, .ref z3, .ref z4, .ref z5, .ref z6, .int 0, .int 0, .int 0, .int 0, .ref z7, .null])), (z1, .inl (cI, 2, .inl r2)), (z2, .inl (cI, 36, .inl (fun _ => 0))), (z3, .inl (cI, 8, .inl (fun _ => 0))), (z4, .inl (cI, 18, .inl (fun _ => 0))), (z5, .inl (cI, 18, .inl (fun _ => 0))), (z6, .inl (cI, 6, .inl (fun _ => 0))), (z7, .inl (cI, 4, .inl (fun _ => 0)))] := hD
  refine lv_aload_n hx hb dX2_init_97 rfl (lv_at hl 0 rfl) ?_
  refine lv_iconst (v := 4) hx hb dX2_init_98 (by decide) ?_
  refine r_newaI (N' := 4) hx hb har_I hK hP hD hS hA (by decide) rfl (Nat.le_of_ble_eq_true rfl) (Nat.le_of_ble_eq_true rfl) (Nat.le_of_ble_eq_true rfl) dX2_init_99 (fun z8 H hP hD hS => ?_)
  have hP : va_P D vwCl [(a0, .inr (2, [.ref z1, .ref z2, .ref z3, .ref z4, .ref z5, .ref z6, .int 0, .int 0, .int 0, .int 0, .ref z7, .null])), (z1, .inl (cI, 2, .inl r2)), (z2, .inl (cI, 36, .inl (fun _ => 0))), (z3, .inl (cI, 8, .inl (fun _ => 0))), (z4, .inl (cI, 18, .inl (fun _ => 0))), (z5, .inl (cI, 18, .inl (fun _ => 0))), (z6, .inl (cI, 6, .inl (fun _ => 0))), (z7, .inl (cI, 4, .inl (fun _ => 0))), (z8, .inl (cI, 4, .inl (fun _ => 0)))] H := hP
  have hD : va_D A [(a0, .inr (2, [.ref z1, .ref z2, .ref z3, .ref z4, .ref z5, .ref z6, .int 0, .int 0, .int 0, .int 0, .ref z7, .null])), (z1, .inl (cI, 2, .inl r2)), (z2, .inl (cI, 36, .inl (fun _ => 0))), (z3, .inl (cI, 8, .inl (fun _ => 0))), (z4, .inl (cI, 18, .inl (fun _ => 0))), (z5, .inl (cI, 18, .inl (fun _ => 0))), (z6, .inl (cI, 6, .inl (fun _ => 0))), (z7, .inl (cI, 4, .inl (fun _ => 0))), (z8, .inl (cI, 4, .inl (fun _ => 0)))] := hD
  refine W.widen (k := 8) (n := 96) (Nat.le_of_ble_eq_true rfl) (Nat.le_of_ble_eq_true rfl) ?_
  refine va_putF (D := D) (ci := 2) (v := .ref z8) (ty := .array .int) (C := RX2) (T := TX2) (N := 12) hx hb hts hi_X2 tyX2 tyX2_ok nmX2 hown hK hP hD hS 0 rfl rfl 11 (by decide) hf_50 (fun _ h9 => h9) rfl hin rfl (by decide +kernel) rfl rfl (Nat.le_of_ble_eq_true rfl) dX2_init_101 (fun H locs hP hD hS => ?_)
  have hP : va_P D vwCl [(a0, .inr (2, [.ref z1, .ref z2, .ref z3, .ref z4, .ref z5, .ref z6, .int 0, .int 0, .int 0, .int 0, .ref z7, .ref z8])), (z1, .inl (cI, 2, .inl r2)), (z2, .inl (cI, 36, .inl (fun _ => 0))), (z3, .inl (cI, 8, .inl (fun _ => 0))), (z4, .inl (cI, 18, .inl (fun _ => 0))), (z5, .inl (cI, 18, .inl (fun _ => 0))), (z6, .inl (cI, 6, .inl (fun _ => 0))), (z7, .inl (cI, 4, .inl (fun _ => 0))), (z8, .inl (cI, 4, .inl (fun _ => 0)))] H := hP
  have hD : va_D A [(a0, .inr (2, [.ref z1, .ref z2, .ref z3, .ref z4, .ref z5, .ref z6, .int 0, .int 0, .int 0, .int 0, .ref z7, .ref z8])), (z1, .inl (cI, 2, .inl r2)), (z2, .inl (cI, 36, .inl (fun _ => 0))), (z3, .inl (cI, 8, .inl (fun _ => 0))), (z4, .inl (cI, 18, .inl (fun _ => 0))), (z5, .inl (cI, 18, .inl (fun _ => 0))), (z6, .inl (cI, 6, .inl (fun _ => 0))), (z7, .inl (cI, 4, .inl (fun _ => 0))), (z8, .inl (cI, 4, .inl (fun _ => 0)))] := hD
  have hres := Option.some.inj hsp
  subst hres
  exact W.vret hx hb hr (fun t ht hW => ⟨⟨(), rfl, trivial, (fun k => ([z1, z2, z3, z4, z5, z6, z7, z8] : List Nat).getD k 0), P_at ht hP, hD⟩, hS.F ht⟩) hS.2.2 dX2_init_104

theorem nd_X2_isStrength : yX2_isStrength.cls = RX2 ∧ yX2_isStrength.cls ≠ "java/lang/invoke/MethodHandle" ∧ yX2_isStrength.cls ≠ "java/lang/invoke/VarHandle" ∧ (parseMethodDescriptor yX2_isStrength.desc).map (fun d => d.parameters.length) = some 1 := by decide +kernel
set_option maxHeartbeats 8000000 in
set_option maxRecDepth 100000 in
theorem k_X2_isStrength (l : Launch) (D : va_G) (cI cZ cC cS : ClassId) (sz : Nat) (u0 : Int32) (res : Int32) (hsp : s_X2_isStrength u0 = some res) : Met l yX2_isStrength wsX2_isStrength ({ frames := 1, cells := 0, slots := 0, locals := 22 }) (va_Pc [.int u0] (PB D cI cZ cC cS [] sz)) (va_Qi (fun r (_ : Unit) => r = res ∧ (res = 0 ∨ res = 1)) (fun _ t => va_P D vwCl [] t.heap) (va_A [] sz)) 0 0 (va_A [] sz) := by
  refine Met.ofW (cc := cX2_isStrength) (maxL := 1) (ret := (some .boolean)) (by decide) rfl ?_
  intro p e s m args below meth c s₁ B hml hv
  obtain ⟨rfl, hsz, hP, hD0, hKU⟩ := hv
  have hx := B.exec
  have hb := B.bytes
  have hr := B.returns
  have hts := atoms_spec (ws := wsX2_isStrength) B.pre
  have hown : s.vm.findClass RX2 = some m.cls := findClass_of_methodNamed B.named
  have hlocks := B.notSynchronized
  have hK := hKU.1
  have hst_X4_isBetween := hts (.static yX4_isBetween) (by decide +kernel)
  have hin_X4 := hts (.initialized RX4) (by decide +kernel)
  subst hsz
  have hD := hD0.self (sz := s.heap.size)
  generalize hAe : va_A [] s.heap.size = A at hD ⊢
  have hA : ∀ q : Nat, s.heap.size ≤ q → A q := fun q h => by rw [← hAe]; exact Or.inr h
  have hP : va_P D vwCl [] s.heap := hP
  generalize hHe : s.heap = H at hP ⊢
  have hS : va_S A s.heap H [] := by rw [hHe]; exact va_S.rf
  have hl := lv_entry ([.int u0]) (n := 1) (Nat.le_of_ble_eq_true rfl)
  rw [lg_entry_eq]
  generalize (lg_sl ([.int u0]) ++ List.replicate (1 - (lg_sl ([.int u0])).length) Slot.unset).toArray = ls at hl ⊢
  have hl : lv_has ls 1 [(0, .int u0)] := hl
  unfold s_X2_isStrength at hsp
  refine lv_iload_n hx hb dX2_isStrength_0 rfl (lv_at hl 0 rfl) ?_
  refine lv_iconst (v := 0) hx hb dX2_isStrength_1 (by decide) ?_
  refine lv_bipush (v := 100) hx hb dX2_isStrength_2 (by decide) ?_
  obtain ⟨r1, hcr1, hsp⟩ := clE hsp
  refine call_z (w1 := []) (ws' := []) (va_runSN (As := [.int u0, .int 0, .int 100]) (rest := []) ⟨hx, hb, hml, hown, hts⟩ (k_X4_isBetween l D cI cZ cC cS H.size u0 0 100 r1 hcr1) ⟨va_cnB 3 hts gX2_isStrength_X4_isBetween_n57 rfl rfl rfl (mn_Studio_57 hKU.2.2) hin_X4 nd_X4_isBetween.2 ⟨Nat.le_of_ble_eq_true rfl, Nat.le_of_ble_eq_true rfl⟩, hst_X4_isBetween, trivial⟩ (PB.preS hKU hP hD [] rfl rfl) rfl rfl hl.1 rfl (lv_room (Nat.le_of_ble_eq_true rfl)) dX2_isStrength_4 ⟨Nat.zero_le _, Nat.zero_le _⟩) hS hP hD hA [] rfl rfl (by first | (simp only [wset, List.set_cons_zero, List.set_cons_succ]; done) | rfl) rfl (fun H locs hP hD hS hzr1 => ?_)
  have hres := Option.some.inj hsp
  subst hres
  exact W.zret (v := r1) hx hb hr (zE hzr1) (fun t ht hW => ⟨⟨r1, (), rfl, ⟨rfl, hzr1⟩, P_at ht hP⟩, hS.F ht⟩) hS.2.2 dX2_isStrength_7

theorem nd_X2_paintPanel : yX2_paintPanel.cls = RX2 ∧ yX2_paintPanel.cls ≠ "java/lang/invoke/MethodHandle" ∧ yX2_paintPanel.cls ≠ "java/lang/invoke/VarHandle" ∧ (parseMethodDescriptor yX2_paintPanel.desc).map (fun d => d.parameters.length) = some 1 := by decide +kernel
set_option maxHeartbeats 8000000 in
set_option maxRecDepth 100000 in
theorem k_X2_paintPanel (l : Launch) (D : va_G) (cI cZ cC cS : ClassId) (sz : Nat) (a0 a1 a2 a4 a5 a6 a7 a8 : Nat) (w0_2 : Value) (w0_6 : Value) (g0_7 : Int32) (w0_8 : Value) (w0_9 : Value) (f1 : Nat → Int32) (f2 : Nat → Int32) (f4 : Nat → Int32) (f5 : Nat → Int32) (f6 : Nat → Int32) (f7 : Nat → Int32) (f8 : Nat → Int32) (u1 : Int32) (res : Int32 × Int32 × (Nat → Int32) × (Nat → Int32) × (Nat → Int32) × (Nat → Int32) × (Nat → Int32)) (hsp : s_X2_paintPanel g0_7 f1 f2 f4 f5 f6 f7 f8 u1 = some res) : Met l yX2_paintPanel wsX2_paintPanel ({ frames := 3, cells := 0, slots := 0, locals := 71 }) (va_Pc [.ref a0, .int u1] (PB D cI cZ cC cS [(a0, .inr (2, [.ref a1, .ref a2, w0_2, .ref a4, .ref a5, .ref a6, w0_6, .int g0_7, w0_8, w0_9, .ref a7, .ref a8])), (a1, .inl (cI, 2, .inl f1)), (a2, .inl (cI, 36, .inl f2)), (a4, .inl (cI, 18, .inl f4)), (a5, .inl (cI, 18, .inl f5)), (a6, .inl (cI, 6, .inl f6)), (a7, .inl (cI, 4, .inl f7)), (a8, .inl (cI, 4, .inl f8))] sz)) (va_Qi (fun r (_ : Unit) => r = res.1) (fun _ t => va_P D vwCl [(a0, .inr (2, [.ref a1, .ref a2, w0_2, .ref a4, .ref a5, .ref a6, w0_6, .int res.2.1, w0_8, w0_9, .ref a7, .ref a8])), (a1, .inl (cI, 2, .inl f1)), (a2, .inl (cI, 36, .inl res.2.2.1)), (a4, .inl (cI, 18, .inl f4)), (a5, .inl (cI, 18, .inl res.2.2.2.1)), (a6, .inl (cI, 6, .inl res.2.2.2.2.1)), (a7, .inl (cI, 4, .inl res.2.2.2.2.2.1)), (a8, .inl (cI, 4, .inl res.2.2.2.2.2.2))] t.heap) (va_A [(a0, .inr (2, [.ref a1, .ref a2, w0_2, .ref a4, .ref a5, .ref a6, w0_6, .int g0_7, w0_8, w0_9, .ref a7, .ref a8])), (a1, .inl (cI, 2, .inl f1)), (a2, .inl (cI, 36, .inl f2)), (a4, .inl (cI, 18, .inl f4)), (a5, .inl (cI, 18, .inl f5)), (a6, .inl (cI, 6, .inl f6)), (a7, .inl (cI, 4, .inl f7)), (a8, .inl (cI, 4, .inl f8))] sz)) 0 0 (va_A [(a0, .inr (2, [.ref a1, .ref a2, w0_2, .ref a4, .ref a5, .ref a6, w0_6, .int g0_7, w0_8, w0_9, .ref a7, .ref a8])), (a1, .inl (cI, 2, .inl f1)), (a2, .inl (cI, 36, .inl f2)), (a4, .inl (cI, 18, .inl f4)), (a5, .inl (cI, 18, .inl f5)), (a6, .inl (cI, 6, .inl f6)), (a7, .inl (cI, 4, .inl f7)), (a8, .inl (cI, 4, .inl f8))] sz) := by
  refine Met.ofW (cc := cX2_paintPanel) (maxL := 4) (ret := (some .int)) (by decide) rfl ?_
  intro p e s m args below meth c s₁ B hml hv
  obtain ⟨rfl, hsz, hP, hD0, hKU⟩ := hv
  have hx := B.exec
  have hb := B.bytes
  have hr := B.returns
  have hts := atoms_spec (ws := wsX2_paintPanel) B.pre
  have hown : s.vm.findClass RX2 = some m.cls := findClass_of_methodNamed B.named
  have hlocks := B.notSynchronized
  have hK := hKU.1
  have hst_X4_isWithin := hts (.static yX4_isWithin) (by decide +kernel)
  have hin_X4 := hts (.initialized RX4) (by decide +kernel)
  have hf_9 := hts (.fieldLink RX2 9 "ThinnedPots$Studio" "settings" "[I") (by decide +kernel)
  have hi_X2 : ∀ w ∈ u_ws RX2 TX2 12, w ∈ wsX2_paintPanel := by decide +kernel
  have hst_X4_at := hts (.static yX4_at) (by decide +kernel)
  have hf_31 := hts (.fieldLink RX2 31 "ThinnedPots$Studio" "strokes" "[I") (by decide +kernel)
  have hst_X4_add := hts (.static yX4_add) (by decide +kernel)
  have hf_38 := hts (.fieldLink RX2 38 "ThinnedPots$Studio" "dropsOnPanels" "I") (by decide +kernel)
  have hf_28 := hts (.fieldLink RX2 28 "ThinnedPots$Studio" "painted" "[I") (by decide +kernel)
  have hst_X4_write := hts (.static yX4_write) (by decide +kernel)
  subst hsz
  have hD := hD0.self (sz := s.heap.size)
  generalize hAe : va_A [(a0, .inr (2, [.ref a1, .ref a2, w0_2, .ref a4, .ref a5, .ref a6, w0_6, .int g0_7, w0_8, w0_9, .ref a7, .ref a8])), (a1, .inl (cI, 2, .inl f1)), (a2, .inl (cI, 36, .inl f2)), (a4, .inl (cI, 18, .inl f4)), (a5, .inl (cI, 18, .inl f5)), (a6, .inl (cI, 6, .inl f6)), (a7, .inl (cI, 4, .inl f7)), (a8, .inl (cI, 4, .inl f8))] s.heap.size = A at hD ⊢
  have hA : ∀ q : Nat, s.heap.size ≤ q → A q := fun q h => by rw [← hAe]; exact Or.inr h
  have hP : va_P D vwCl [(a0, .inr (2, [.ref a1, .ref a2, w0_2, .ref a4, .ref a5, .ref a6, w0_6, .int g0_7, w0_8, w0_9, .ref a7, .ref a8])), (a1, .inl (cI, 2, .inl f1)), (a2, .inl (cI, 36, .inl f2)), (a4, .inl (cI, 18, .inl f4)), (a5, .inl (cI, 18, .inl f5)), (a6, .inl (cI, 6, .inl f6)), (a7, .inl (cI, 4, .inl f7)), (a8, .inl (cI, 4, .inl f8))] s.heap := hP
  generalize hHe : s.heap = H at hP ⊢
  have hS : va_S A s.heap H [] := by rw [hHe]; exact va_S.rf
  have hl := lv_entry ([.ref a0, .int u1]) (n := 4) (Nat.le_of_ble_eq_true rfl)
  rw [lg_entry_eq]
  generalize (lg_sl ([.ref a0, .int u1]) ++ List.replicate (4 - (lg_sl ([.ref a0, .int u1])).length) Slot.unset).toArray = ls at hl ⊢
  have hl : lv_has ls 4 [(0, .ref a0), (1, .int u1)] := hl
  unfold s_X2_paintPanel at hsp
  refine lv_iload_n hx hb dX2_paintPanel_0 rfl (lv_at hl 1 rfl) ?_
  refine lv_bipush (v := 6) hx hb dX2_paintPanel_1 (by decide) ?_
  obtain ⟨r1, hcr1, hsp⟩ := clE hsp
  refine call_z (w1 := []) (ws' := [(a0, .inr (2, [.ref a1, .ref a2, w0_2, .ref a4, .ref a5, .ref a6, w0_6, .int g0_7, w0_8, w0_9, .ref a7, .ref a8])), (a1, .inl (cI, 2, .inl f1)), (a2, .inl (cI, 36, .inl f2)), (a4, .inl (cI, 18, .inl f4)), (a5, .inl (cI, 18, .inl f5)), (a6, .inl (cI, 6, .inl f6)), (a7, .inl (cI, 4, .inl f7)), (a8, .inl (cI, 4, .inl f8))]) (va_runSN (As := [.int u1, .int 6]) (rest := []) ⟨hx, hb, hml, hown, hts⟩ (k_X4_isWithin l D cI cZ cC cS H.size u1 6 r1 hcr1) ⟨va_cnB 2 hts gX2_paintPanel_X4_isWithin_n65 rfl rfl rfl (mn_Studio_65 hKU.2.2) hin_X4 nd_X4_isWithin.2 ⟨Nat.le_of_ble_eq_true rfl, Nat.le_of_ble_eq_true rfl⟩, hst_X4_isWithin, trivial⟩ (PB.preS hKU hP hD [] rfl rfl) rfl rfl hl.1 rfl (lv_room (Nat.le_of_ble_eq_true rfl)) dX2_paintPanel_3 ⟨Nat.zero_le _, Nat.zero_le _⟩) hS hP hD hA [] rfl rfl (by first | (simp only [wset, List.set_cons_zero, List.set_cons_succ]; done) | rfl) rfl (fun H locs hP hD hS hzr1 => ?_)
  refine lv_if_ne (tgt := 11) hx hb dX2_paintPanel_6 (by decide) (fun c2 => ?_) (fun c2 => ?_)
  · have hsp := itF hsp c2
    refine lv_aload_n hx hb dX2_paintPanel_11 rfl (lv_at hl 0 rfl) ?_
    refine va_get (D := D) (ci := 2) (v := .ref a1) (C := RX2) (T := TX2) (N := 12) hx hb hts hi_X2 hown hK hP 0 rfl rfl 0 (by decide) hf_9 (fun _ h9 => h9) rfl dX2_paintPanel_12 ?_
    refine lv_iconst (v := 0) hx hb dX2_paintPanel_15 (by decide) ?_
    obtain ⟨r3, hcr3, hsp⟩ := clE hsp
    refine call_i (w1 := [(a1, .inl (cI, 2, .inl f1))]) (ws' := [(a0, .inr (2, [.ref a1, .ref a2, w0_2, .ref a4, .ref a5, .ref a6, w0_6, .int g0_7, w0_8, w0_9, .ref a7, .ref a8])), (a1, .inl (cI, 2, .inl f1)), (a2, .inl (cI, 36, .inl f2)), (a4, .inl (cI, 18, .inl f4)), (a5, .inl (cI, 18, .inl f5)), (a6, .inl (cI, 6, .inl f6)), (a7, .inl (cI, 4, .inl f7)), (a8, .inl (cI, 4, .inl f8))]) (va_runSN (As := [.ref a1, .int 0]) (rest := []) ⟨hx, hb, hml, hown, hts⟩ (k_X4_at l D cI cZ cC cS H.size a1 2 f1 0 r3 hcr3) ⟨va_cnB 2 hts gX2_paintPanel_X4_at_n61 rfl rfl rfl (mn_Studio_61 hKU.2.2) hin_X4 nd_X4_at.2 ⟨Nat.le_of_ble_eq_true rfl, Nat.le_of_ble_eq_true rfl⟩, hst_X4_at, trivial⟩ (PB.preS hKU hP hD [1] rfl rfl) rfl rfl hl.1 rfl (lv_room (Nat.le_of_ble_eq_true rfl)) dX2_paintPanel_16 ⟨Nat.zero_le _, Nat.zero_le _⟩) hS hP hD hA [1] rfl rfl (by first | (simp only [wset, List.set_cons_zero, List.set_cons_succ]; done) | rfl) rfl (fun H locs hP hD hS => ?_)
    refine lv_istore_n (lv' := [(2, .int r3), (0, .ref a0), (1, .int u1)]) hx hb dX2_paintPanel_19 rfl hl (by decide) rfl (fun ls hl => ?_)
    refine lv_aload_n hx hb dX2_paintPanel_20 rfl (lv_at hl 1 rfl) ?_
    refine lv_bipush (v := 8) hx hb dX2_paintPanel_21 (by decide) ?_
    obtain ⟨r4, hcr4, hsp⟩ := clE hsp
    refine call_i (w1 := [(a0, .inr (2, [.ref a1, .ref a2, w0_2, .ref a4, .ref a5, .ref a6, w0_6, .int g0_7, w0_8, w0_9, .ref a7, .ref a8])), (a2, .inl (cI, 36, .inl f2))]) (ws' := [(a0, .inr (2, [.ref a1, .ref a2, w0_2, .ref a4, .ref a5, .ref a6, w0_6, .int g0_7, w0_8, w0_9, .ref a7, .ref a8])), (a1, .inl (cI, 2, .inl f1)), (a2, .inl (cI, 36, .inl f2)), (a4, .inl (cI, 18, .inl f4)), (a5, .inl (cI, 18, .inl f5)), (a6, .inl (cI, 6, .inl f6)), (a7, .inl (cI, 4, .inl f7)), (a8, .inl (cI, 4, .inl f8))]) (va_runV (As := [.int 8]) (rest := []) ⟨hx, hb, hml, hown, hts⟩ (k_X2_allDrops l D cI cZ cC cS H.size a0 a2 (.ref a1) (w0_2) (.ref a4) (.ref a5) (.ref a6) (w0_6) (.int g0_7) (w0_8) (w0_9) (.ref a7) (.ref a8) f2 8 r4 hcr4) (cwV 1 hts gX2_paintPanel_X2_allDrops rfl rfl rfl nd_X2_allDrops ⟨Nat.le_of_ble_eq_true rfl, Nat.le_of_ble_eq_true rfl⟩) (PB.preV (ci := 2) (q0 := 0) hKU hP hD [0, 2] rfl rfl rfl rfl) rfl rfl hl.1 rfl (lv_room (Nat.le_of_ble_eq_true rfl)) dX2_paintPanel_23 ⟨Nat.zero_le _, Nat.zero_le _⟩) hS hP hD hA [0, 2] rfl rfl (by first | (simp only [wset, List.set_cons_zero, List.set_cons_succ]; done) | rfl) rfl (fun H locs hP hD hS => ?_)
    refine lv_iload_n hx hb dX2_paintPanel_26 rfl (lv_at hl 0 rfl) ?_
    refine lv_icmp_ge (tgt := 33) hx hb dX2_paintPanel_27 (by decide) (fun c5 => ?_) (fun c5 => ?_)
    · have hsp := itT hsp c5
      refine lv_iconst (v := 0) hx hb dX2_paintPanel_33 (by decide) ?_
      refine lv_istore_n (lv' := [(3, .int 0), (2, .int r3), (0, .ref a0), (1, .int u1)]) hx hb dX2_paintPanel_34 rfl hl (by decide) rfl (fun ls hl => ?_)
      refine ex_rule (D := D) (K := s_X2_paintPanel_X1 f2 f7 f8 r3 f6 u1 g0_7 f4) (P := fun (t1 : (Nat → Int32)) => [(a0, .inr (2, [.ref a1, .ref a2, w0_2, .ref a4, .ref a5, .ref a6, w0_6, .int g0_7, w0_8, w0_9, .ref a7, .ref a8])), (a1, .inl (cI, 2, .inl f1)), (a2, .inl (cI, 36, .inl f2)), (a4, .inl (cI, 18, .inl f4)), (a5, .inl (cI, 18, .inl t1)), (a6, .inl (cI, 6, .inl f6)), (a7, .inl (cI, 4, .inl f7)), (a8, .inl (cI, 4, .inl f8))]) (L := fun (t1 : (Nat → Int32)) => [(0, .ref a0), (1, .int u1), (2, .int r3)]) (nL := 4) (pcx := 65) (res := res) (A := A) (H0 := s.heap) ?_ (fun hx1 => ?_)
      · intro t1 H locs hsp hP hD hS ls hl
        obtain ⟨y8, rfl⟩ : ∃ z, z = t1 := ⟨_, rfl⟩
        unfold s_X2_paintPanel_X1 at hsp; try dsimp only at hsp
        have hP : va_P D vwCl [(a0, .inr (2, [.ref a1, .ref a2, w0_2, .ref a4, .ref a5, .ref a6, w0_6, .int g0_7, w0_8, w0_9, .ref a7, .ref a8])), (a1, .inl (cI, 2, .inl f1)), (a2, .inl (cI, 36, .inl f2)), (a4, .inl (cI, 18, .inl f4)), (a5, .inl (cI, 18, .inl y8)), (a6, .inl (cI, 6, .inl f6)), (a7, .inl (cI, 4, .inl f7)), (a8, .inl (cI, 4, .inl f8))] H := hP
        have hD : va_D A [(a0, .inr (2, [.ref a1, .ref a2, w0_2, .ref a4, .ref a5, .ref a6, w0_6, .int g0_7, w0_8, w0_9, .ref a7, .ref a8])), (a1, .inl (cI, 2, .inl f1)), (a2, .inl (cI, 36, .inl f2)), (a4, .inl (cI, 18, .inl f4)), (a5, .inl (cI, 18, .inl y8)), (a6, .inl (cI, 6, .inl f6)), (a7, .inl (cI, 4, .inl f7)), (a8, .inl (cI, 4, .inl f8))] := hD
        have hl : lv_has ls 4 [(0, .ref a0), (1, .int u1), (2, .int r3)] := hl
        refine lv_aload_n hx hb dX2_paintPanel_65 rfl (lv_at hl 0 rfl) ?_
        refine lv_bipush (v := 8) hx hb dX2_paintPanel_66 (by decide) ?_
        refine lv_iload_n hx hb dX2_paintPanel_68 rfl (lv_at hl 2 rfl) ?_
        obtain ⟨r9, hcr9, hsp⟩ := clE hsp
        refine call_v (w1 := [(a0, .inr (2, [.ref a1, .ref a2, w0_2, .ref a4, .ref a5, .ref a6, w0_6, .int g0_7, w0_8, w0_9, .ref a7, .ref a8])), (a2, .inl (cI, 36, .inl r9.1)), (a7, .inl (cI, 4, .inl r9.2.1)), (a8, .inl (cI, 4, .inl r9.2.2))]) (ws' := [(a0, .inr (2, [.ref a1, .ref a2, w0_2, .ref a4, .ref a5, .ref a6, w0_6, .int g0_7, w0_8, w0_9, .ref a7, .ref a8])), (a1, .inl (cI, 2, .inl f1)), (a2, .inl (cI, 36, .inl r9.1)), (a4, .inl (cI, 18, .inl f4)), (a5, .inl (cI, 18, .inl y8)), (a6, .inl (cI, 6, .inl f6)), (a7, .inl (cI, 4, .inl r9.2.1)), (a8, .inl (cI, 4, .inl r9.2.2))]) (va_runV (As := [.int 8, .int r3]) (rest := []) ⟨hx, hb, hml, hown, hts⟩ (k_X2_takeOut l D cI cZ cC cS H.size a0 a2 a7 a8 (.ref a1) (w0_2) (.ref a4) (.ref a5) (.ref a6) (w0_6) (.int g0_7) (w0_8) (w0_9) f2 f7 f8 8 r3 r9 hcr9) (cwV 2 hts gX2_paintPanel_X2_takeOut rfl rfl rfl nd_X2_takeOut ⟨Nat.le_of_ble_eq_true rfl, Nat.le_of_ble_eq_true rfl⟩) (PB.preV (ci := 2) (q0 := 0) hKU hP hD [0, 2, 6, 7] rfl rfl rfl rfl) rfl rfl hl.1 rfl (lv_room (Nat.le_of_ble_eq_true rfl)) dX2_paintPanel_69 ⟨Nat.zero_le _, Nat.zero_le _⟩) hS hP hD hA [0, 2, 6, 7] rfl rfl (by first | (simp only [wset, List.set_cons_zero, List.set_cons_succ]; done) | rfl) rfl (fun H locs hP hD hS => ?_)
        refine lv_aload_n hx hb dX2_paintPanel_72 rfl (lv_at hl 0 rfl) ?_
        refine va_get (D := D) (ci := 2) (v := .ref a6) (C := RX2) (T := TX2) (N := 12) hx hb hts hi_X2 hown hK hP 0 rfl rfl 5 (by decide) hf_31 (fun _ h9 => h9) rfl dX2_paintPanel_73 ?_
        refine lv_iload_n hx hb dX2_paintPanel_76 rfl (lv_at hl 1 rfl) ?_
        refine lv_iconst (v := 1) hx hb dX2_paintPanel_77 (by decide) ?_
        obtain ⟨r10, hcr10, hsp⟩ := clE hsp
        refine call_v (w1 := [(a6, .inl (cI, 6, .inl r10))]) (ws' := [(a0, .inr (2, [.ref a1, .ref a2, w0_2, .ref a4, .ref a5, .ref a6, w0_6, .int g0_7, w0_8, w0_9, .ref a7, .ref a8])), (a1, .inl (cI, 2, .inl f1)), (a2, .inl (cI, 36, .inl r9.1)), (a4, .inl (cI, 18, .inl f4)), (a5, .inl (cI, 18, .inl y8)), (a6, .inl (cI, 6, .inl r10)), (a7, .inl (cI, 4, .inl r9.2.1)), (a8, .inl (cI, 4, .inl r9.2.2))]) (va_runSN (As := [.ref a6, .int u1, .int 1]) (rest := []) ⟨hx, hb, hml, hown, hts⟩ (k_X4_add l D cI cZ cC cS H.size a6 6 f6 u1 1 r10 hcr10) ⟨va_cnB 3 hts gX2_paintPanel_X4_add_n73 rfl rfl rfl (mn_Studio_73 hKU.2.2) hin_X4 nd_X4_add.2 ⟨Nat.le_of_ble_eq_true rfl, Nat.le_of_ble_eq_true rfl⟩, hst_X4_add, trivial⟩ (PB.preS hKU hP hD [5] rfl rfl) rfl rfl hl.1 rfl (lv_room (Nat.le_of_ble_eq_true rfl)) dX2_paintPanel_78 ⟨Nat.zero_le _, Nat.zero_le _⟩) hS hP hD hA [5] rfl rfl (by first | (simp only [wset, List.set_cons_zero, List.set_cons_succ]; done) | rfl) rfl (fun H locs hP hD hS => ?_)
        refine lv_aload_n hx hb dX2_paintPanel_81 rfl (lv_at hl 0 rfl) ?_
        refine lv_dup hx hb dX2_paintPanel_82 rfl ?_
        refine va_get (D := D) (ci := 2) (v := .int g0_7) (C := RX2) (T := TX2) (N := 12) hx hb hts hi_X2 hown hK hP 0 rfl rfl 7 (by decide) hf_38 (fun _ h9 => h9) rfl dX2_paintPanel_83 ?_
        refine lv_iload_n hx hb dX2_paintPanel_86 rfl (lv_at hl 2 rfl) ?_
        refine lv_iadd hx hb dX2_paintPanel_87 ?_
        obtain ⟨x11, ex11, hsp⟩ := nmE hsp
        refine r_top ex11 ?_
        refine va_put (D := D) (ci := 2) (v := .int x11) (ty := .int) (C := RX2) (T := TX2) (N := 12) hx hb hts hi_X2 tyX2 tyX2_ok nmX2 hown hK hP hD hS 0 rfl rfl 7 (by decide) hf_38 (fun _ h9 => h9) rfl (by decide +kernel) rfl rfl (Nat.le_of_ble_eq_true rfl) dX2_paintPanel_88 (fun H locs hP hD hS => ?_)
        have hP : va_P D vwCl [(a0, .inr (2, [.ref a1, .ref a2, w0_2, .ref a4, .ref a5, .ref a6, w0_6, .int x11, w0_8, w0_9, .ref a7, .ref a8])), (a1, .inl (cI, 2, .inl f1)), (a2, .inl (cI, 36, .inl r9.1)), (a4, .inl (cI, 18, .inl f4)), (a5, .inl (cI, 18, .inl y8)), (a6, .inl (cI, 6, .inl r10)), (a7, .inl (cI, 4, .inl r9.2.1)), (a8, .inl (cI, 4, .inl r9.2.2))] H := hP
        have hD : va_D A [(a0, .inr (2, [.ref a1, .ref a2, w0_2, .ref a4, .ref a5, .ref a6, w0_6, .int x11, w0_8, w0_9, .ref a7, .ref a8])), (a1, .inl (cI, 2, .inl f1)), (a2, .inl (cI, 36, .inl r9.1)), (a4, .inl (cI, 18, .inl f4)), (a5, .inl (cI, 18, .inl y8)), (a6, .inl (cI, 6, .inl r10)), (a7, .inl (cI, 4, .inl r9.2.1)), (a8, .inl (cI, 4, .inl r9.2.2))] := hD
        refine lv_aload_n hx hb dX2_paintPanel_91 rfl (lv_at hl 0 rfl) ?_
        refine lv_iload_n hx hb dX2_paintPanel_92 rfl (lv_at hl 1 rfl) ?_
        obtain ⟨r12, hcr12, hsp⟩ := clE hsp
        refine call_i (w1 := [(a0, .inr (2, [.ref a1, .ref a2, w0_2, .ref a4, .ref a5, .ref a6, w0_6, .int x11, w0_8, w0_9, .ref a7, .ref a8])), (a4, .inl (cI, 18, .inl f4)), (a5, .inl (cI, 18, .inl y8))]) (ws' := [(a0, .inr (2, [.ref a1, .ref a2, w0_2, .ref a4, .ref a5, .ref a6, w0_6, .int x11, w0_8, w0_9, .ref a7, .ref a8])), (a1, .inl (cI, 2, .inl f1)), (a2, .inl (cI, 36, .inl r9.1)), (a4, .inl (cI, 18, .inl f4)), (a5, .inl (cI, 18, .inl y8)), (a6, .inl (cI, 6, .inl r10)), (a7, .inl (cI, 4, .inl r9.2.1)), (a8, .inl (cI, 4, .inl r9.2.2))]) (va_runV (As := [.int u1]) (rest := []) ⟨hx, hb, hml, hown, hts⟩ (k_X2_distanceOfPanel l D cI cZ cC cS H.size a0 a4 a5 (.ref a1) (.ref a2) (w0_2) (.ref a6) (w0_6) (.int x11) (w0_8) (w0_9) (.ref a7) (.ref a8) f4 y8 u1 r12 hcr12) (cwV 1 hts gX2_paintPanel_X2_distanceOfPanel rfl rfl rfl nd_X2_distanceOfPanel ⟨Nat.le_of_ble_eq_true rfl, Nat.le_of_ble_eq_true rfl⟩) (PB.preV (ci := 2) (q0 := 0) hKU hP hD [0, 3, 4] rfl rfl rfl rfl) rfl rfl hl.1 rfl (lv_room (Nat.le_of_ble_eq_true rfl)) dX2_paintPanel_93 ⟨Nat.zero_le _, Nat.zero_le _⟩) hS hP hD hA [0, 3, 4] rfl rfl (by first | (simp only [wset, List.set_cons_zero, List.set_cons_succ]; done) | rfl) rfl (fun H locs hP hD hS => ?_)
        have hres := Option.some.inj hsp
        subst hres
        exact W.iret (v := r12) hx hb hr (fun t ht hW => ⟨⟨r12, (), rfl, rfl, P_at ht hP⟩, hS.F ht⟩) hS.2.2 dX2_paintPanel_96
      have hl := lv_sub hl (l' := [(0, .ref a0), (1, .int u1), (2, .int r3), (3, .int 0)]) [2, 3, 1, 0] rfl
      refine lp_rule (D := D) (F := s_X2_paintPanel_L1 f2 u1 (s_X2_paintPanel_X1 f2 f7 f8 r3 f6 u1 g0_7 f4)) (P := fun (tv : Int32 × (Nat → Int32)) => [(a0, .inr (2, [.ref a1, .ref a2, w0_2, .ref a4, .ref a5, .ref a6, w0_6, .int g0_7, w0_8, w0_9, .ref a7, .ref a8])), (a1, .inl (cI, 2, .inl f1)), (a2, .inl (cI, 36, .inl f2)), (a4, .inl (cI, 18, .inl f4)), (a5, .inl (cI, 18, .inl tv.2)), (a6, .inl (cI, 6, .inl f6)), (a7, .inl (cI, 4, .inl f7)), (a8, .inl (cI, 4, .inl f8))]) (L := fun (tv : Int32 × (Nat → Int32)) => [(0, .ref a0), (1, .int u1), (2, .int r3), (3, .int tv.1)]) (nL := 4) (res := res) (A := A) (H0 := s.heap) (fun _ => rfl) ?_ 1000 (0, f5) _ _ hsp hP hD hS _ hl
      · intro n1 ih1 tv H locs hsp hP hD hS ls hl
        obtain ⟨x6, y7⟩ := tv
        have hsp : s_X2_paintPanel_B1  f2 u1 (s_X2_paintPanel_X1 f2 f7 f8 r3 f6 u1 g0_7 f4) (s_X2_paintPanel_L1 f2 u1 (s_X2_paintPanel_X1 f2 f7 f8 r3 f6 u1 g0_7 f4) n1) x6 y7 = some res := hsp
        unfold s_X2_paintPanel_B1 at hsp
        have hP : va_P D vwCl [(a0, .inr (2, [.ref a1, .ref a2, w0_2, .ref a4, .ref a5, .ref a6, w0_6, .int g0_7, w0_8, w0_9, .ref a7, .ref a8])), (a1, .inl (cI, 2, .inl f1)), (a2, .inl (cI, 36, .inl f2)), (a4, .inl (cI, 18, .inl f4)), (a5, .inl (cI, 18, .inl y7)), (a6, .inl (cI, 6, .inl f6)), (a7, .inl (cI, 4, .inl f7)), (a8, .inl (cI, 4, .inl f8))] H := hP
        have hD : va_D A [(a0, .inr (2, [.ref a1, .ref a2, w0_2, .ref a4, .ref a5, .ref a6, w0_6, .int g0_7, w0_8, w0_9, .ref a7, .ref a8])), (a1, .inl (cI, 2, .inl f1)), (a2, .inl (cI, 36, .inl f2)), (a4, .inl (cI, 18, .inl f4)), (a5, .inl (cI, 18, .inl y7)), (a6, .inl (cI, 6, .inl f6)), (a7, .inl (cI, 4, .inl f7)), (a8, .inl (cI, 4, .inl f8))] := hD
        have hl : lv_has ls 4 [(0, .ref a0), (1, .int u1), (2, .int r3), (3, .int x6)] := hl
        refine lv_iload_n hx hb dX2_paintPanel_35 rfl (lv_at hl 3 rfl) ?_
        refine lv_iconst (v := 3) hx hb dX2_paintPanel_36 (by decide) ?_
        refine lv_icmp_ge (tgt := 65) hx hb dX2_paintPanel_37 (by decide) (fun c13 => ?_) (fun c13 => ?_)
        · have hsp := itT hsp c13
          exact hx1 y7 _ _ hsp hP hD hS _ (lv_sub hl [0, 1, 2] rfl)
        have hsp := itF hsp c13
        refine lv_aload_n hx hb dX2_paintPanel_40 rfl (lv_at hl 0 rfl) ?_
        refine va_get (D := D) (ci := 2) (v := .ref a5) (C := RX2) (T := TX2) (N := 12) hx hb hts hi_X2 hown hK hP 0 rfl rfl 4 (by decide) hf_28 (fun _ h9 => h9) rfl dX2_paintPanel_41 ?_
        refine lv_iload_n hx hb dX2_paintPanel_44 rfl (lv_at hl 1 rfl) ?_
        refine lv_iconst (v := 3) hx hb dX2_paintPanel_45 (by decide) ?_
        refine lv_imul hx hb dX2_paintPanel_46 ?_
        refine lv_iload_n hx hb dX2_paintPanel_47 rfl (lv_at hl 3 rfl) ?_
        refine lv_iadd hx hb dX2_paintPanel_48 ?_
        refine lv_aload_n hx hb dX2_paintPanel_49 rfl (lv_at hl 0 rfl) ?_
        refine lv_bipush (v := 8) hx hb dX2_paintPanel_50 (by decide) ?_
        refine lv_iload_n hx hb dX2_paintPanel_52 rfl (lv_at hl 3 rfl) ?_
        obtain ⟨r14, hcr14, hsp⟩ := clE hsp
        refine call_i (w1 := [(a0, .inr (2, [.ref a1, .ref a2, w0_2, .ref a4, .ref a5, .ref a6, w0_6, .int g0_7, w0_8, w0_9, .ref a7, .ref a8])), (a2, .inl (cI, 36, .inl f2))]) (ws' := [(a0, .inr (2, [.ref a1, .ref a2, w0_2, .ref a4, .ref a5, .ref a6, w0_6, .int g0_7, w0_8, w0_9, .ref a7, .ref a8])), (a1, .inl (cI, 2, .inl f1)), (a2, .inl (cI, 36, .inl f2)), (a4, .inl (cI, 18, .inl f4)), (a5, .inl (cI, 18, .inl y7)), (a6, .inl (cI, 6, .inl f6)), (a7, .inl (cI, 4, .inl f7)), (a8, .inl (cI, 4, .inl f8))]) (va_runV (As := [.int 8, .int x6]) (rest := [.int ((u1 * 3) + x6), .ref a5]) ⟨hx, hb, hml, hown, hts⟩ (k_X2_strength l D cI cZ cC cS H.size a0 a2 (.ref a1) (w0_2) (.ref a4) (.ref a5) (.ref a6) (w0_6) (.int g0_7) (w0_8) (w0_9) (.ref a7) (.ref a8) f2 8 x6 r14 hcr14) (cwV 2 hts gX2_paintPanel_X2_strength rfl rfl rfl nd_X2_strength ⟨Nat.le_of_ble_eq_true rfl, Nat.le_of_ble_eq_true rfl⟩) (PB.preV (ci := 2) (q0 := 0) hKU hP hD [0, 2] rfl rfl rfl rfl) rfl rfl hl.1 rfl (lv_room (Nat.le_of_ble_eq_true rfl)) dX2_paintPanel_53 ⟨Nat.zero_le _, Nat.zero_le _⟩) hS hP hD hA [0, 2] rfl rfl (by first | (simp only [wset, List.set_cons_zero, List.set_cons_succ]; done) | rfl) rfl (fun H locs hP hD hS => ?_)
        obtain ⟨r15, hcr15, hsp⟩ := clE hsp
        refine call_v (w1 := [(a5, .inl (cI, 18, .inl r15))]) (ws' := [(a0, .inr (2, [.ref a1, .ref a2, w0_2, .ref a4, .ref a5, .ref a6, w0_6, .int g0_7, w0_8, w0_9, .ref a7, .ref a8])), (a1, .inl (cI, 2, .inl f1)), (a2, .inl (cI, 36, .inl f2)), (a4, .inl (cI, 18, .inl f4)), (a5, .inl (cI, 18, .inl r15)), (a6, .inl (cI, 6, .inl f6)), (a7, .inl (cI, 4, .inl f7)), (a8, .inl (cI, 4, .inl f8))]) (va_runSN (As := [.ref a5, .int ((u1 * 3) + x6), .int r14]) (rest := []) ⟨hx, hb, hml, hown, hts⟩ (k_X4_write l D cI cZ cC cS H.size a5 18 y7 ((u1 * 3) + x6) r14 r15 hcr15) ⟨va_cnB 3 hts gX2_paintPanel_X4_write_n15 rfl rfl rfl (mn_Studio_15 hKU.2.2) hin_X4 nd_X4_write.2 ⟨Nat.le_of_ble_eq_true rfl, Nat.le_of_ble_eq_true rfl⟩, hst_X4_write, trivial⟩ (PB.preS hKU hP hD [4] rfl rfl) rfl rfl hl.1 rfl (lv_room (Nat.le_of_ble_eq_true rfl)) dX2_paintPanel_56 ⟨Nat.zero_le _, Nat.zero_le _⟩) hS hP hD hA [4] rfl rfl (by first | (simp only [wset, List.set_cons_zero, List.set_cons_succ]; done) | rfl) rfl (fun H locs hP hD hS => ?_)
        obtain ⟨x16, ex16, hsp⟩ := nmE hsp
        refine lv_iinc (k := 3) (v := x16) (lv' := [(3, .int x16), (0, .ref a0), (1, .int u1), (2, .int r3)]) hx hb dX2_paintPanel_59 hl rfl (by rw [ex16]; rfl) (by decide) rfl (fun ls hl => ?_)
        refine lv_goto (tgt := 35) hx hb dX2_paintPanel_62 (by decide) ?_
        exact ih1 (x16, r15) _ _ hsp hP hD hS _ (lv_sub hl [1, 2, 3, 0] rfl)
    have hsp := itF hsp c5
    refine lv_bipush (v := (-5)) hx hb dX2_paintPanel_30 (by decide) ?_
    have hres := Option.some.inj hsp
    subst hres
    exact W.iret (v := (-5)) hx hb hr (fun t ht hW => ⟨⟨(-5), (), rfl, rfl, P_at ht hP⟩, hS.F ht⟩) hS.2.2 dX2_paintPanel_32
  have hsp := itT hsp c2
  refine lv_iconst (v := (-1)) hx hb dX2_paintPanel_9 (by decide) ?_
  have hres := Option.some.inj hsp
  subst hres
  exact W.iret (v := (-1)) hx hb hr (fun t ht hW => ⟨⟨(-1), (), rfl, rfl, P_at ht hP⟩, hS.F ht⟩) hS.2.2 dX2_paintPanel_10

theorem nd_X2_pourOver : yX2_pourOver.cls = RX2 ∧ yX2_pourOver.cls ≠ "java/lang/invoke/MethodHandle" ∧ yX2_pourOver.cls ≠ "java/lang/invoke/VarHandle" ∧ (parseMethodDescriptor yX2_pourOver.desc).map (fun d => d.parameters.length) = some 3 := by decide +kernel
set_option maxHeartbeats 8000000 in
set_option maxRecDepth 100000 in
theorem k_X2_pourOver (l : Launch) (D : va_G) (cI cZ cC cS : ClassId) (sz : Nat) (a0 a2 a7 a8 : Nat) (w0_0 : Value) (w0_2 : Value) (w0_3 : Value) (w0_4 : Value) (w0_5 : Value) (w0_6 : Value) (w0_7 : Value) (w0_8 : Value) (w0_9 : Value) (f2 : Nat → Int32) (f7 : Nat → Int32) (f8 : Nat → Int32) (u1 : Int32) (u2 : Int32) (u3 : Int32) (res : Int32 × (Nat → Int32) × (Nat → Int32) × (Nat → Int32)) (hsp : s_X2_pourOver f2 f7 f8 u1 u2 u3 = some res) : Met l yX2_pourOver wsX2_pourOver ({ frames := 4, cells := 0, slots := 0, locals := 96 }) (va_Pc [.ref a0, .int u1, .int u2, .int u3] (PB D cI cZ cC cS [(a0, .inr (2, [w0_0, .ref a2, w0_2, w0_3, w0_4, w0_5, w0_6, w0_7, w0_8, w0_9, .ref a7, .ref a8])), (a2, .inl (cI, 36, .inl f2)), (a7, .inl (cI, 4, .inl f7)), (a8, .inl (cI, 4, .inl f8))] sz)) (va_Qi (fun r (_ : Unit) => r = res.1) (fun _ t => va_P D vwCl [(a0, .inr (2, [w0_0, .ref a2, w0_2, w0_3, w0_4, w0_5, w0_6, w0_7, w0_8, w0_9, .ref a7, .ref a8])), (a2, .inl (cI, 36, .inl res.2.1)), (a7, .inl (cI, 4, .inl res.2.2.1)), (a8, .inl (cI, 4, .inl res.2.2.2))] t.heap) (va_A [(a0, .inr (2, [w0_0, .ref a2, w0_2, w0_3, w0_4, w0_5, w0_6, w0_7, w0_8, w0_9, .ref a7, .ref a8])), (a2, .inl (cI, 36, .inl f2)), (a7, .inl (cI, 4, .inl f7)), (a8, .inl (cI, 4, .inl f8))] sz)) 0 0 (va_A [(a0, .inr (2, [w0_0, .ref a2, w0_2, w0_3, w0_4, w0_5, w0_6, w0_7, w0_8, w0_9, .ref a7, .ref a8])), (a2, .inl (cI, 36, .inl f2)), (a7, .inl (cI, 4, .inl f7)), (a8, .inl (cI, 4, .inl f8))] sz) := by
  refine Met.ofW (cc := cX2_pourOver) (maxL := 4) (ret := (some .int)) (by decide) rfl ?_
  intro p e s m args below meth c s₁ B hml hv
  obtain ⟨rfl, hsz, hP, hD0, hKU⟩ := hv
  have hx := B.exec
  have hb := B.bytes
  have hr := B.returns
  have hts := atoms_spec (ws := wsX2_pourOver) B.pre
  have hown : s.vm.findClass RX2 = some m.cls := findClass_of_methodNamed B.named
  have hlocks := B.notSynchronized
  have hK := hKU.1
  have hst_X4_isWithin := hts (.static yX4_isWithin) (by decide +kernel)
  have hin_X4 := hts (.initialized RX4) (by decide +kernel)
  have hst_X4_isBetween := hts (.static yX4_isBetween) (by decide +kernel)
  subst hsz
  have hD := hD0.self (sz := s.heap.size)
  generalize hAe : va_A [(a0, .inr (2, [w0_0, .ref a2, w0_2, w0_3, w0_4, w0_5, w0_6, w0_7, w0_8, w0_9, .ref a7, .ref a8])), (a2, .inl (cI, 36, .inl f2)), (a7, .inl (cI, 4, .inl f7)), (a8, .inl (cI, 4, .inl f8))] s.heap.size = A at hD ⊢
  have hA : ∀ q : Nat, s.heap.size ≤ q → A q := fun q h => by rw [← hAe]; exact Or.inr h
  have hP : va_P D vwCl [(a0, .inr (2, [w0_0, .ref a2, w0_2, w0_3, w0_4, w0_5, w0_6, w0_7, w0_8, w0_9, .ref a7, .ref a8])), (a2, .inl (cI, 36, .inl f2)), (a7, .inl (cI, 4, .inl f7)), (a8, .inl (cI, 4, .inl f8))] s.heap := hP
  generalize hHe : s.heap = H at hP ⊢
  have hS : va_S A s.heap H [] := by rw [hHe]; exact va_S.rf
  have hl := lv_entry ([.ref a0, .int u1, .int u2, .int u3]) (n := 4) (Nat.le_of_ble_eq_true rfl)
  rw [lg_entry_eq]
  generalize (lg_sl ([.ref a0, .int u1, .int u2, .int u3]) ++ List.replicate (4 - (lg_sl ([.ref a0, .int u1, .int u2, .int u3])).length) Slot.unset).toArray = ls at hl ⊢
  have hl : lv_has ls 4 [(0, .ref a0), (1, .int u1), (2, .int u2), (3, .int u3)] := hl
  unfold s_X2_pourOver at hsp
  refine lv_iload_n hx hb dX2_pourOver_0 rfl (lv_at hl 1 rfl) ?_
  refine lv_bipush (v := 8) hx hb dX2_pourOver_1 (by decide) ?_
  obtain ⟨r1, hcr1, hsp⟩ := clE hsp
  refine call_z (w1 := []) (ws' := [(a0, .inr (2, [w0_0, .ref a2, w0_2, w0_3, w0_4, w0_5, w0_6, w0_7, w0_8, w0_9, .ref a7, .ref a8])), (a2, .inl (cI, 36, .inl f2)), (a7, .inl (cI, 4, .inl f7)), (a8, .inl (cI, 4, .inl f8))]) (va_runSN (As := [.int u1, .int 8]) (rest := []) ⟨hx, hb, hml, hown, hts⟩ (k_X4_isWithin l D cI cZ cC cS H.size u1 8 r1 hcr1) ⟨va_cnB 2 hts gX2_pourOver_X4_isWithin_n65 rfl rfl rfl (mn_Studio_65 hKU.2.2) hin_X4 nd_X4_isWithin.2 ⟨Nat.le_of_ble_eq_true rfl, Nat.le_of_ble_eq_true rfl⟩, hst_X4_isWithin, trivial⟩ (PB.preS hKU hP hD [] rfl rfl) rfl rfl hl.1 rfl (lv_room (Nat.le_of_ble_eq_true rfl)) dX2_pourOver_3 ⟨Nat.zero_le _, Nat.zero_le _⟩) hS hP hD hA [] rfl rfl (by first | (simp only [wset, List.set_cons_zero, List.set_cons_succ]; done) | rfl) rfl (fun H locs hP hD hS hzr1 => ?_)
  refine lv_if_eq (tgt := 18) hx hb dX2_pourOver_6 (by decide) (fun c2 => ?_) (fun c2 => ?_)
  · have hsp := itT hsp c2
    refine lv_iconst (v := (-1)) hx hb dX2_pourOver_18 (by decide) ?_
    have hres := Option.some.inj hsp
    subst hres
    exact W.iret (v := (-1)) hx hb hr (fun t ht hW => ⟨⟨(-1), (), rfl, rfl, P_at ht hP⟩, hS.F ht⟩) hS.2.2 dX2_pourOver_19
  have hsp := itF hsp c2
  refine lv_iload_n hx hb dX2_pourOver_9 rfl (lv_at hl 2 rfl) ?_
  refine lv_bipush (v := 8) hx hb dX2_pourOver_10 (by decide) ?_
  obtain ⟨r3, hcr3, hsp⟩ := clE hsp
  refine call_z (w1 := []) (ws' := [(a0, .inr (2, [w0_0, .ref a2, w0_2, w0_3, w0_4, w0_5, w0_6, w0_7, w0_8, w0_9, .ref a7, .ref a8])), (a2, .inl (cI, 36, .inl f2)), (a7, .inl (cI, 4, .inl f7)), (a8, .inl (cI, 4, .inl f8))]) (va_runSN (As := [.int u2, .int 8]) (rest := []) ⟨hx, hb, hml, hown, hts⟩ (k_X4_isWithin l D cI cZ cC cS H.size u2 8 r3 hcr3) ⟨va_cnB 2 hts gX2_pourOver_X4_isWithin_n65 rfl rfl rfl (mn_Studio_65 hKU.2.2) hin_X4 nd_X4_isWithin.2 ⟨Nat.le_of_ble_eq_true rfl, Nat.le_of_ble_eq_true rfl⟩, hst_X4_isWithin, trivial⟩ (PB.preS hKU hP hD [] rfl rfl) rfl rfl hl.1 rfl (lv_room (Nat.le_of_ble_eq_true rfl)) dX2_pourOver_12 ⟨Nat.zero_le _, Nat.zero_le _⟩) hS hP hD hA [] rfl rfl (by first | (simp only [wset, List.set_cons_zero, List.set_cons_succ]; done) | rfl) rfl (fun H locs hP hD hS hzr3 => ?_)
  refine lv_if_ne (tgt := 20) hx hb dX2_pourOver_15 (by decide) (fun c4 => ?_) (fun c4 => ?_)
  · have hsp := itF hsp c4
    refine lv_iload_n hx hb dX2_pourOver_20 rfl (lv_at hl 1 rfl) ?_
    refine lv_iload_n hx hb dX2_pourOver_21 rfl (lv_at hl 2 rfl) ?_
    refine lv_icmp_eq (tgt := 35) hx hb dX2_pourOver_22 (by decide) (fun c5 => ?_) (fun c5 => ?_)
    · have hsp := itT hsp c5
      refine lv_bipush (v := (-2)) hx hb dX2_pourOver_35 (by decide) ?_
      have hres := Option.some.inj hsp
      subst hres
      exact W.iret (v := (-2)) hx hb hr (fun t ht hW => ⟨⟨(-2), (), rfl, rfl, P_at ht hP⟩, hS.F ht⟩) hS.2.2 dX2_pourOver_37
    have hsp := itF hsp c5
    refine lv_iload_n hx hb dX2_pourOver_25 rfl (lv_at hl 3 rfl) ?_
    refine lv_iconst (v := 1) hx hb dX2_pourOver_26 (by decide) ?_
    refine lv_bipush (v := 81) hx hb dX2_pourOver_27 (by decide) ?_
    obtain ⟨r6, hcr6, hsp⟩ := clE hsp
    refine call_z (w1 := []) (ws' := [(a0, .inr (2, [w0_0, .ref a2, w0_2, w0_3, w0_4, w0_5, w0_6, w0_7, w0_8, w0_9, .ref a7, .ref a8])), (a2, .inl (cI, 36, .inl f2)), (a7, .inl (cI, 4, .inl f7)), (a8, .inl (cI, 4, .inl f8))]) (va_runSN (As := [.int u3, .int 1, .int 81]) (rest := []) ⟨hx, hb, hml, hown, hts⟩ (k_X4_isBetween l D cI cZ cC cS H.size u3 1 81 r6 hcr6) ⟨va_cnB 3 hts gX2_pourOver_X4_isBetween_n57 rfl rfl rfl (mn_Studio_57 hKU.2.2) hin_X4 nd_X4_isBetween.2 ⟨Nat.le_of_ble_eq_true rfl, Nat.le_of_ble_eq_true rfl⟩, hst_X4_isBetween, trivial⟩ (PB.preS hKU hP hD [] rfl rfl) rfl rfl hl.1 rfl (lv_room (Nat.le_of_ble_eq_true rfl)) dX2_pourOver_29 ⟨Nat.zero_le _, Nat.zero_le _⟩) hS hP hD hA [] rfl rfl (by first | (simp only [wset, List.set_cons_zero, List.set_cons_succ]; done) | rfl) rfl (fun H locs hP hD hS hzr6 => ?_)
    refine lv_if_ne (tgt := 38) hx hb dX2_pourOver_32 (by decide) (fun c7 => ?_) (fun c7 => ?_)
    · have hsp := itF hsp c7
      refine lv_aload_n hx hb dX2_pourOver_38 rfl (lv_at hl 0 rfl) ?_
      refine lv_iload_n hx hb dX2_pourOver_39 rfl (lv_at hl 1 rfl) ?_
      refine lv_iload_n hx hb dX2_pourOver_40 rfl (lv_at hl 2 rfl) ?_
      refine lv_iload_n hx hb dX2_pourOver_41 rfl (lv_at hl 3 rfl) ?_
      refine lv_bipush (v := 81) hx hb dX2_pourOver_42 (by decide) ?_
      obtain ⟨r8, hcr8, hsp⟩ := clE hsp
      refine call_i (w1 := [(a0, .inr (2, [w0_0, .ref a2, w0_2, w0_3, w0_4, w0_5, w0_6, w0_7, w0_8, w0_9, .ref a7, .ref a8])), (a2, .inl (cI, 36, .inl r8.2.1)), (a7, .inl (cI, 4, .inl r8.2.2.1)), (a8, .inl (cI, 4, .inl r8.2.2.2))]) (ws' := [(a0, .inr (2, [w0_0, .ref a2, w0_2, w0_3, w0_4, w0_5, w0_6, w0_7, w0_8, w0_9, .ref a7, .ref a8])), (a2, .inl (cI, 36, .inl r8.2.1)), (a7, .inl (cI, 4, .inl r8.2.2.1)), (a8, .inl (cI, 4, .inl r8.2.2.2))]) (va_runV (As := [.int u1, .int u2, .int u3, .int 81]) (rest := []) ⟨hx, hb, hml, hown, hts⟩ (k_X2_move l D cI cZ cC cS H.size a0 a2 a7 a8 (w0_0) (w0_2) (w0_3) (w0_4) (w0_5) (w0_6) (w0_7) (w0_8) (w0_9) f2 f7 f8 u1 u2 u3 81 r8 hcr8) (cwV 4 hts gX2_pourOver_X2_move rfl rfl rfl nd_X2_move ⟨Nat.le_of_ble_eq_true rfl, Nat.le_of_ble_eq_true rfl⟩) (PB.preV (ci := 2) (q0 := 0) hKU hP hD [0, 1, 2, 3] rfl rfl rfl rfl) rfl rfl hl.1 rfl (lv_room (Nat.le_of_ble_eq_true rfl)) dX2_pourOver_44 ⟨Nat.zero_le _, Nat.zero_le _⟩) hS hP hD hA [0, 1, 2, 3] rfl rfl (by first | (simp only [wset, List.set_cons_zero, List.set_cons_succ]; done) | rfl) rfl (fun H locs hP hD hS => ?_)
      have hres := Option.some.inj hsp
      subst hres
      exact W.iret (v := r8.1) hx hb hr (fun t ht hW => ⟨⟨r8.1, (), rfl, rfl, P_at ht hP⟩, hS.F ht⟩) hS.2.2 dX2_pourOver_47
    have hsp := itT hsp c7
    refine lv_bipush (v := (-2)) hx hb dX2_pourOver_35 (by decide) ?_
    have hres := Option.some.inj hsp
    subst hres
    exact W.iret (v := (-2)) hx hb hr (fun t ht hW => ⟨⟨(-2), (), rfl, rfl, P_at ht hP⟩, hS.F ht⟩) hS.2.2 dX2_pourOver_37
  have hsp := itT hsp c4
  refine lv_iconst (v := (-1)) hx hb dX2_pourOver_18 (by decide) ?_
  have hres := Option.some.inj hsp
  subst hres
  exact W.iret (v := (-1)) hx hb hr (fun t ht hW => ⟨⟨(-1), (), rfl, rfl, P_at ht hP⟩, hS.F ht⟩) hS.2.2 dX2_pourOver_19

theorem nd_X2_rinseBrush : yX2_rinseBrush.cls = RX2 ∧ yX2_rinseBrush.cls ≠ "java/lang/invoke/MethodHandle" ∧ yX2_rinseBrush.cls ≠ "java/lang/invoke/VarHandle" ∧ (parseMethodDescriptor yX2_rinseBrush.desc).map (fun d => d.parameters.length) = some 0 := by decide +kernel
set_option maxHeartbeats 8000000 in
set_option maxRecDepth 100000 in
theorem k_X2_rinseBrush (l : Launch) (D : va_G) (cI cZ cC cS : ClassId) (sz : Nat) (a0 a2 : Nat) (w0_0 : Value) (w0_2 : Value) (w0_3 : Value) (w0_4 : Value) (w0_5 : Value) (w0_6 : Value) (w0_7 : Value) (g0_8 : Int32) (g0_9 : Int32) (w0_10 : Value) (w0_11 : Value) (f2 : Nat → Int32) (res : Int32 × Int32 × Int32 × (Nat → Int32)) (hsp : s_X2_rinseBrush g0_8 g0_9 f2 = some res) : Met l yX2_rinseBrush wsX2_rinseBrush ({ frames := 2, cells := 0, slots := 0, locals := 45 }) (va_Pc [.ref a0] (PB D cI cZ cC cS [(a0, .inr (2, [w0_0, .ref a2, w0_2, w0_3, w0_4, w0_5, w0_6, w0_7, .int g0_8, .int g0_9, w0_10, w0_11])), (a2, .inl (cI, 36, .inl f2))] sz)) (va_Qi (fun r (_ : Unit) => r = res.1) (fun _ t => va_P D vwCl [(a0, .inr (2, [w0_0, .ref a2, w0_2, w0_3, w0_4, w0_5, w0_6, w0_7, .int res.2.1, .int res.2.2.1, w0_10, w0_11])), (a2, .inl (cI, 36, .inl res.2.2.2))] t.heap) (va_A [(a0, .inr (2, [w0_0, .ref a2, w0_2, w0_3, w0_4, w0_5, w0_6, w0_7, .int g0_8, .int g0_9, w0_10, w0_11])), (a2, .inl (cI, 36, .inl f2))] sz)) 0 0 (va_A [(a0, .inr (2, [w0_0, .ref a2, w0_2, w0_3, w0_4, w0_5, w0_6, w0_7, .int g0_8, .int g0_9, w0_10, w0_11])), (a2, .inl (cI, 36, .inl f2))] sz) := by
  refine Met.ofW (cc := cX2_rinseBrush) (maxL := 2) (ret := (some .int)) (by decide) rfl ?_
  intro p e s m args below meth c s₁ B hml hv
  obtain ⟨rfl, hsz, hP, hD0, hKU⟩ := hv
  have hx := B.exec
  have hb := B.bytes
  have hr := B.returns
  have hts := atoms_spec (ws := wsX2_rinseBrush) B.pre
  have hown : s.vm.findClass RX2 = some m.cls := findClass_of_methodNamed B.named
  have hlocks := B.notSynchronized
  have hK := hKU.1
  have hf_44 := hts (.fieldLink RX2 44 "ThinnedPots$Studio" "rinsesWithDrops" "I") (by decide +kernel)
  have hi_X2 : ∀ w ∈ u_ws RX2 TX2 12, w ∈ wsX2_rinseBrush := by decide +kernel
  subst hsz
  have hD := hD0.self (sz := s.heap.size)
  generalize hAe : va_A [(a0, .inr (2, [w0_0, .ref a2, w0_2, w0_3, w0_4, w0_5, w0_6, w0_7, .int g0_8, .int g0_9, w0_10, w0_11])), (a2, .inl (cI, 36, .inl f2))] s.heap.size = A at hD ⊢
  have hA : ∀ q : Nat, s.heap.size ≤ q → A q := fun q h => by rw [← hAe]; exact Or.inr h
  have hP : va_P D vwCl [(a0, .inr (2, [w0_0, .ref a2, w0_2, w0_3, w0_4, w0_5, w0_6, w0_7, .int g0_8, .int g0_9, w0_10, w0_11])), (a2, .inl (cI, 36, .inl f2))] s.heap := hP
  generalize hHe : s.heap = H at hP ⊢
  have hS : va_S A s.heap H [] := by rw [hHe]; exact va_S.rf
  have hl := lv_entry ([.ref a0]) (n := 2) (Nat.le_of_ble_eq_true rfl)
  rw [lg_entry_eq]
  generalize (lg_sl ([.ref a0]) ++ List.replicate (2 - (lg_sl ([.ref a0])).length) Slot.unset).toArray = ls at hl ⊢
  have hl : lv_has ls 2 [(0, .ref a0)] := hl
  unfold s_X2_rinseBrush at hsp
  refine lv_aload_n hx hb dX2_rinseBrush_0 rfl (lv_at hl 0 rfl) ?_
  refine lv_bipush (v := 8) hx hb dX2_rinseBrush_1 (by decide) ?_
  obtain ⟨r1, hcr1, hsp⟩ := clE hsp
  refine call_i (w1 := [(a0, .inr (2, [w0_0, .ref a2, w0_2, w0_3, w0_4, w0_5, w0_6, w0_7, .int r1.2.1, .int g0_9, w0_10, w0_11])), (a2, .inl (cI, 36, .inl r1.2.2))]) (ws' := [(a0, .inr (2, [w0_0, .ref a2, w0_2, w0_3, w0_4, w0_5, w0_6, w0_7, .int r1.2.1, .int g0_9, w0_10, w0_11])), (a2, .inl (cI, 36, .inl r1.2.2))]) (va_runV (As := [.int 8]) (rest := []) ⟨hx, hb, hml, hown, hts⟩ (k_X2_sink l D cI cZ cC cS H.size a0 a2 (w0_0) (w0_2) (w0_3) (w0_4) (w0_5) (w0_6) (w0_7) g0_8 (.int g0_9) (w0_10) (w0_11) f2 8 r1 hcr1) (cwV 1 hts gX2_rinseBrush_X2_sink rfl rfl rfl nd_X2_sink ⟨Nat.le_of_ble_eq_true rfl, Nat.le_of_ble_eq_true rfl⟩) (PB.preV (ci := 2) (q0 := 0) hKU hP hD [0, 1] rfl rfl rfl rfl) rfl rfl hl.1 rfl (lv_room (Nat.le_of_ble_eq_true rfl)) dX2_rinseBrush_3 ⟨Nat.zero_le _, Nat.zero_le _⟩) hS hP hD hA [0, 1] rfl rfl (by first | (simp only [wset, List.set_cons_zero, List.set_cons_succ]; done) | rfl) rfl (fun H locs hP hD hS => ?_)
  refine lv_istore_n (lv' := [(1, .int r1.1), (0, .ref a0)]) hx hb dX2_rinseBrush_6 rfl hl (by decide) rfl (fun ls hl => ?_)
  refine lv_iload_n hx hb dX2_rinseBrush_7 rfl (lv_at hl 0 rfl) ?_
  refine lv_if_le (tgt := 21) hx hb dX2_rinseBrush_8 (by decide) (fun c2 => ?_) (fun c2 => ?_)
  · have hsp := itT hsp c2
    refine lv_iload_n hx hb dX2_rinseBrush_21 rfl (lv_at hl 0 rfl) ?_
    have hres := Option.some.inj hsp
    subst hres
    exact W.iret (v := r1.1) hx hb hr (fun t ht hW => ⟨⟨r1.1, (), rfl, rfl, P_at ht hP⟩, hS.F ht⟩) hS.2.2 dX2_rinseBrush_22
  have hsp := itF hsp c2
  refine lv_aload_n hx hb dX2_rinseBrush_11 rfl (lv_at hl 1 rfl) ?_
  refine lv_dup hx hb dX2_rinseBrush_12 rfl ?_
  refine va_get (D := D) (ci := 2) (v := .int g0_9) (C := RX2) (T := TX2) (N := 12) hx hb hts hi_X2 hown hK hP 0 rfl rfl 9 (by decide) hf_44 (fun _ h9 => h9) rfl dX2_rinseBrush_13 ?_
  refine lv_iconst (v := 1) hx hb dX2_rinseBrush_16 (by decide) ?_
  refine lv_iadd hx hb dX2_rinseBrush_17 ?_
  obtain ⟨x3, ex3, hsp⟩ := nmE hsp
  refine r_top ex3 ?_
  refine va_put (D := D) (ci := 2) (v := .int x3) (ty := .int) (C := RX2) (T := TX2) (N := 12) hx hb hts hi_X2 tyX2 tyX2_ok nmX2 hown hK hP hD hS 0 rfl rfl 9 (by decide) hf_44 (fun _ h9 => h9) rfl (by decide +kernel) rfl rfl (Nat.le_of_ble_eq_true rfl) dX2_rinseBrush_18 (fun H locs hP hD hS => ?_)
  have hP : va_P D vwCl [(a0, .inr (2, [w0_0, .ref a2, w0_2, w0_3, w0_4, w0_5, w0_6, w0_7, .int r1.2.1, .int x3, w0_10, w0_11])), (a2, .inl (cI, 36, .inl r1.2.2))] H := hP
  have hD : va_D A [(a0, .inr (2, [w0_0, .ref a2, w0_2, w0_3, w0_4, w0_5, w0_6, w0_7, .int r1.2.1, .int x3, w0_10, w0_11])), (a2, .inl (cI, 36, .inl r1.2.2))] := hD
  refine lv_iload_n hx hb dX2_rinseBrush_21 rfl (lv_at hl 0 rfl) ?_
  have hres := Option.some.inj hsp
  subst hres
  exact W.iret (v := r1.1) hx hb hr (fun t ht hW => ⟨⟨r1.1, (), rfl, rfl, P_at ht hP⟩, hS.F ht⟩) hS.2.2 dX2_rinseBrush_22

theorem nd_X2_thinPot : yX2_thinPot.cls = RX2 ∧ yX2_thinPot.cls ≠ "java/lang/invoke/MethodHandle" ∧ yX2_thinPot.cls ≠ "java/lang/invoke/VarHandle" ∧ (parseMethodDescriptor yX2_thinPot.desc).map (fun d => d.parameters.length) = some 1 := by decide +kernel
set_option maxHeartbeats 8000000 in
set_option maxRecDepth 100000 in
theorem k_X2_thinPot (l : Launch) (D : va_G) (cI cZ cC cS : ClassId) (sz : Nat) (a0 a2 a3 : Nat) (w0_0 : Value) (w0_3 : Value) (w0_4 : Value) (w0_5 : Value) (g0_6 : Int32) (w0_7 : Value) (w0_8 : Value) (w0_9 : Value) (w0_10 : Value) (w0_11 : Value) (f2 : Nat → Int32) (f3 : Nat → Int32) (u1 : Int32) (res : Int32 × Int32 × (Nat → Int32) × (Nat → Int32)) (hsp : s_X2_thinPot g0_6 f2 f3 u1 = some res) : Met l yX2_thinPot wsX2_thinPot ({ frames := 2, cells := 0, slots := 0, locals := 44 }) (va_Pc [.ref a0, .int u1] (PB D cI cZ cC cS [(a0, .inr (2, [w0_0, .ref a2, .ref a3, w0_3, w0_4, w0_5, .int g0_6, w0_7, w0_8, w0_9, w0_10, w0_11])), (a2, .inl (cI, 36, .inl f2)), (a3, .inl (cI, 8, .inl f3))] sz)) (va_Qi (fun r (_ : Unit) => r = res.1) (fun _ t => va_P D vwCl [(a0, .inr (2, [w0_0, .ref a2, .ref a3, w0_3, w0_4, w0_5, .int res.2.1, w0_7, w0_8, w0_9, w0_10, w0_11])), (a2, .inl (cI, 36, .inl res.2.2.1)), (a3, .inl (cI, 8, .inl res.2.2.2))] t.heap) (va_A [(a0, .inr (2, [w0_0, .ref a2, .ref a3, w0_3, w0_4, w0_5, .int g0_6, w0_7, w0_8, w0_9, w0_10, w0_11])), (a2, .inl (cI, 36, .inl f2)), (a3, .inl (cI, 8, .inl f3))] sz)) 0 0 (va_A [(a0, .inr (2, [w0_0, .ref a2, .ref a3, w0_3, w0_4, w0_5, .int g0_6, w0_7, w0_8, w0_9, w0_10, w0_11])), (a2, .inl (cI, 36, .inl f2)), (a3, .inl (cI, 8, .inl f3))] sz) := by
  refine Met.ofW (cc := cX2_thinPot) (maxL := 4) (ret := (some .int)) (by decide) rfl ?_
  intro p e s m args below meth c s₁ B hml hv
  obtain ⟨rfl, hsz, hP, hD0, hKU⟩ := hv
  have hx := B.exec
  have hb := B.bytes
  have hr := B.returns
  have hts := atoms_spec (ws := wsX2_thinPot) B.pre
  have hown : s.vm.findClass RX2 = some m.cls := findClass_of_methodNamed B.named
  have hlocks := B.notSynchronized
  have hK := hKU.1
  have hst_X4_isWithin := hts (.static yX4_isWithin) (by decide +kernel)
  have hin_X4 := hts (.initialized RX4) (by decide +kernel)
  have hf_19 := hts (.fieldLink RX2 19 "ThinnedPots$Studio" "drops" "[I") (by decide +kernel)
  have hi_X2 : ∀ w ∈ u_ws RX2 TX2 12, w ∈ wsX2_thinPot := by decide +kernel
  have hst_X4_add := hts (.static yX4_add) (by decide +kernel)
  have hf_22 := hts (.fieldLink RX2 22 "ThinnedPots$Studio" "thinnings" "[I") (by decide +kernel)
  have hf_34 := hts (.fieldLink RX2 34 "ThinnedPots$Studio" "dropsPutIn" "I") (by decide +kernel)
  subst hsz
  have hD := hD0.self (sz := s.heap.size)
  generalize hAe : va_A [(a0, .inr (2, [w0_0, .ref a2, .ref a3, w0_3, w0_4, w0_5, .int g0_6, w0_7, w0_8, w0_9, w0_10, w0_11])), (a2, .inl (cI, 36, .inl f2)), (a3, .inl (cI, 8, .inl f3))] s.heap.size = A at hD ⊢
  have hA : ∀ q : Nat, s.heap.size ≤ q → A q := fun q h => by rw [← hAe]; exact Or.inr h
  have hP : va_P D vwCl [(a0, .inr (2, [w0_0, .ref a2, .ref a3, w0_3, w0_4, w0_5, .int g0_6, w0_7, w0_8, w0_9, w0_10, w0_11])), (a2, .inl (cI, 36, .inl f2)), (a3, .inl (cI, 8, .inl f3))] s.heap := hP
  generalize hHe : s.heap = H at hP ⊢
  have hS : va_S A s.heap H [] := by rw [hHe]; exact va_S.rf
  have hl := lv_entry ([.ref a0, .int u1]) (n := 4) (Nat.le_of_ble_eq_true rfl)
  rw [lg_entry_eq]
  generalize (lg_sl ([.ref a0, .int u1]) ++ List.replicate (4 - (lg_sl ([.ref a0, .int u1])).length) Slot.unset).toArray = ls at hl ⊢
  have hl : lv_has ls 4 [(0, .ref a0), (1, .int u1)] := hl
  unfold s_X2_thinPot at hsp
  refine lv_iload_n hx hb dX2_thinPot_0 rfl (lv_at hl 1 rfl) ?_
  refine lv_bipush (v := 8) hx hb dX2_thinPot_1 (by decide) ?_
  obtain ⟨r1, hcr1, hsp⟩ := clE hsp
  refine call_z (w1 := []) (ws' := [(a0, .inr (2, [w0_0, .ref a2, .ref a3, w0_3, w0_4, w0_5, .int g0_6, w0_7, w0_8, w0_9, w0_10, w0_11])), (a2, .inl (cI, 36, .inl f2)), (a3, .inl (cI, 8, .inl f3))]) (va_runSN (As := [.int u1, .int 8]) (rest := []) ⟨hx, hb, hml, hown, hts⟩ (k_X4_isWithin l D cI cZ cC cS H.size u1 8 r1 hcr1) ⟨va_cnB 2 hts gX2_thinPot_X4_isWithin_n65 rfl rfl rfl (mn_Studio_65 hKU.2.2) hin_X4 nd_X4_isWithin.2 ⟨Nat.le_of_ble_eq_true rfl, Nat.le_of_ble_eq_true rfl⟩, hst_X4_isWithin, trivial⟩ (PB.preS hKU hP hD [] rfl rfl) rfl rfl hl.1 rfl (lv_room (Nat.le_of_ble_eq_true rfl)) dX2_thinPot_3 ⟨Nat.zero_le _, Nat.zero_le _⟩) hS hP hD hA [] rfl rfl (by first | (simp only [wset, List.set_cons_zero, List.set_cons_succ]; done) | rfl) rfl (fun H locs hP hD hS hzr1 => ?_)
  refine lv_if_ne (tgt := 11) hx hb dX2_thinPot_6 (by decide) (fun c2 => ?_) (fun c2 => ?_)
  · have hsp := itF hsp c2
    refine lv_aload_n hx hb dX2_thinPot_11 rfl (lv_at hl 0 rfl) ?_
    refine lv_iload_n hx hb dX2_thinPot_12 rfl (lv_at hl 1 rfl) ?_
    obtain ⟨r3, hcr3, hsp⟩ := clE hsp
    refine call_i (w1 := [(a0, .inr (2, [w0_0, .ref a2, .ref a3, w0_3, w0_4, w0_5, .int g0_6, w0_7, w0_8, w0_9, w0_10, w0_11])), (a2, .inl (cI, 36, .inl f2))]) (ws' := [(a0, .inr (2, [w0_0, .ref a2, .ref a3, w0_3, w0_4, w0_5, .int g0_6, w0_7, w0_8, w0_9, w0_10, w0_11])), (a2, .inl (cI, 36, .inl f2)), (a3, .inl (cI, 8, .inl f3))]) (va_runV (As := [.int u1]) (rest := []) ⟨hx, hb, hml, hown, hts⟩ (k_X2_allDrops l D cI cZ cC cS H.size a0 a2 (w0_0) (.ref a3) (w0_3) (w0_4) (w0_5) (.int g0_6) (w0_7) (w0_8) (w0_9) (w0_10) (w0_11) f2 u1 r3 hcr3) (cwV 1 hts gX2_thinPot_X2_allDrops rfl rfl rfl nd_X2_allDrops ⟨Nat.le_of_ble_eq_true rfl, Nat.le_of_ble_eq_true rfl⟩) (PB.preV (ci := 2) (q0 := 0) hKU hP hD [0, 1] rfl rfl rfl rfl) rfl rfl hl.1 rfl (lv_room (Nat.le_of_ble_eq_true rfl)) dX2_thinPot_13 ⟨Nat.zero_le _, Nat.zero_le _⟩) hS hP hD hA [0, 1] rfl rfl (by first | (simp only [wset, List.set_cons_zero, List.set_cons_succ]; done) | rfl) rfl (fun H locs hP hD hS => ?_)
    refine lv_istore_n (lv' := [(2, .int r3), (0, .ref a0), (1, .int u1)]) hx hb dX2_thinPot_16 rfl hl (by decide) rfl (fun ls hl => ?_)
    refine lv_iload_n hx hb dX2_thinPot_17 rfl (lv_at hl 0 rfl) ?_
    refine lv_if_ne (tgt := 24) hx hb dX2_thinPot_18 (by decide) (fun c4 => ?_) (fun c4 => ?_)
    · have hsp := itF hsp c4
      refine lv_iload_n hx hb dX2_thinPot_24 rfl (lv_at hl 0 rfl) ?_
      refine lv_iconst (v := 3) hx hb dX2_thinPot_25 (by decide) ?_
      refine lv_imul hx hb dX2_thinPot_26 ?_
      obtain ⟨x5, ex5, hsp⟩ := nmE hsp
      refine r_top ex5 ?_
      refine lv_istore_n (lv' := [(3, .int x5), (2, .int r3), (0, .ref a0), (1, .int u1)]) hx hb dX2_thinPot_27 rfl hl (by decide) rfl (fun ls hl => ?_)
      refine lv_iload_n hx hb dX2_thinPot_28 rfl (lv_at hl 0 rfl) ?_
      refine lv_bipush (v := 81) hx hb dX2_thinPot_29 (by decide) ?_
      refine lv_icmp_le (tgt := 37) hx hb dX2_thinPot_31 (by decide) (fun c6 => ?_) (fun c6 => ?_)
      · have hsp := itT hsp c6
        refine lv_aload_n hx hb dX2_thinPot_37 rfl (lv_at hl 2 rfl) ?_
        refine va_get (D := D) (ci := 2) (v := .ref a2) (C := RX2) (T := TX2) (N := 12) hx hb hts hi_X2 hown hK hP 0 rfl rfl 1 (by decide) hf_19 (fun _ h9 => h9) rfl dX2_thinPot_38 ?_
        refine lv_iload_n hx hb dX2_thinPot_41 rfl (lv_at hl 3 rfl) ?_
        refine lv_iconst (v := 4) hx hb dX2_thinPot_42 (by decide) ?_
        refine lv_imul hx hb dX2_thinPot_43 ?_
        refine lv_iconst (v := 3) hx hb dX2_thinPot_44 (by decide) ?_
        refine lv_iadd hx hb dX2_thinPot_45 ?_
        refine lv_iload_n hx hb dX2_thinPot_46 rfl (lv_at hl 0 rfl) ?_
        refine lv_iload_n hx hb dX2_thinPot_47 rfl (lv_at hl 1 rfl) ?_
        refine lv_isub hx hb dX2_thinPot_48 ?_
        obtain ⟨r7, hcr7, hsp⟩ := clE hsp
        refine call_v (w1 := [(a2, .inl (cI, 36, .inl r7))]) (ws' := [(a0, .inr (2, [w0_0, .ref a2, .ref a3, w0_3, w0_4, w0_5, .int g0_6, w0_7, w0_8, w0_9, w0_10, w0_11])), (a2, .inl (cI, 36, .inl r7)), (a3, .inl (cI, 8, .inl f3))]) (va_runSN (As := [.ref a2, .int ((u1 * 4) + 3), .int (x5 - r3)]) (rest := []) ⟨hx, hb, hml, hown, hts⟩ (k_X4_add l D cI cZ cC cS H.size a2 36 f2 ((u1 * 4) + 3) (x5 - r3) r7 hcr7) ⟨va_cnB 3 hts gX2_thinPot_X4_add_n73 rfl rfl rfl (mn_Studio_73 hKU.2.2) hin_X4 nd_X4_add.2 ⟨Nat.le_of_ble_eq_true rfl, Nat.le_of_ble_eq_true rfl⟩, hst_X4_add, trivial⟩ (PB.preS hKU hP hD [1] rfl rfl) rfl rfl hl.1 rfl (lv_room (Nat.le_of_ble_eq_true rfl)) dX2_thinPot_49 ⟨Nat.zero_le _, Nat.zero_le _⟩) hS hP hD hA [1] rfl rfl (by first | (simp only [wset, List.set_cons_zero, List.set_cons_succ]; done) | rfl) rfl (fun H locs hP hD hS => ?_)
        refine lv_aload_n hx hb dX2_thinPot_52 rfl (lv_at hl 2 rfl) ?_
        refine va_get (D := D) (ci := 2) (v := .ref a3) (C := RX2) (T := TX2) (N := 12) hx hb hts hi_X2 hown hK hP 0 rfl rfl 2 (by decide) hf_22 (fun _ h9 => h9) rfl dX2_thinPot_53 ?_
        refine lv_iload_n hx hb dX2_thinPot_56 rfl (lv_at hl 3 rfl) ?_
        refine lv_iconst (v := 1) hx hb dX2_thinPot_57 (by decide) ?_
        obtain ⟨r8, hcr8, hsp⟩ := clE hsp
        refine call_v (w1 := [(a3, .inl (cI, 8, .inl r8))]) (ws' := [(a0, .inr (2, [w0_0, .ref a2, .ref a3, w0_3, w0_4, w0_5, .int g0_6, w0_7, w0_8, w0_9, w0_10, w0_11])), (a2, .inl (cI, 36, .inl r7)), (a3, .inl (cI, 8, .inl r8))]) (va_runSN (As := [.ref a3, .int u1, .int 1]) (rest := []) ⟨hx, hb, hml, hown, hts⟩ (k_X4_add l D cI cZ cC cS H.size a3 8 f3 u1 1 r8 hcr8) ⟨va_cnB 3 hts gX2_thinPot_X4_add_n73 rfl rfl rfl (mn_Studio_73 hKU.2.2) hin_X4 nd_X4_add.2 ⟨Nat.le_of_ble_eq_true rfl, Nat.le_of_ble_eq_true rfl⟩, hst_X4_add, trivial⟩ (PB.preS hKU hP hD [2] rfl rfl) rfl rfl hl.1 rfl (lv_room (Nat.le_of_ble_eq_true rfl)) dX2_thinPot_58 ⟨Nat.zero_le _, Nat.zero_le _⟩) hS hP hD hA [2] rfl rfl (by first | (simp only [wset, List.set_cons_zero, List.set_cons_succ]; done) | rfl) rfl (fun H locs hP hD hS => ?_)
        refine lv_aload_n hx hb dX2_thinPot_61 rfl (lv_at hl 2 rfl) ?_
        refine lv_dup hx hb dX2_thinPot_62 rfl ?_
        refine va_get (D := D) (ci := 2) (v := .int g0_6) (C := RX2) (T := TX2) (N := 12) hx hb hts hi_X2 hown hK hP 0 rfl rfl 6 (by decide) hf_34 (fun _ h9 => h9) rfl dX2_thinPot_63 ?_
        refine lv_iload_n hx hb dX2_thinPot_66 rfl (lv_at hl 0 rfl) ?_
        refine lv_iload_n hx hb dX2_thinPot_67 rfl (lv_at hl 1 rfl) ?_
        refine lv_isub hx hb dX2_thinPot_68 ?_
        refine lv_iadd hx hb dX2_thinPot_69 ?_
        obtain ⟨x9, ex9, hsp⟩ := nmE hsp
        refine r_top ex9 ?_
        refine va_put (D := D) (ci := 2) (v := .int x9) (ty := .int) (C := RX2) (T := TX2) (N := 12) hx hb hts hi_X2 tyX2 tyX2_ok nmX2 hown hK hP hD hS 0 rfl rfl 6 (by decide) hf_34 (fun _ h9 => h9) rfl (by decide +kernel) rfl rfl (Nat.le_of_ble_eq_true rfl) dX2_thinPot_70 (fun H locs hP hD hS => ?_)
        have hP : va_P D vwCl [(a0, .inr (2, [w0_0, .ref a2, .ref a3, w0_3, w0_4, w0_5, .int x9, w0_7, w0_8, w0_9, w0_10, w0_11])), (a2, .inl (cI, 36, .inl r7)), (a3, .inl (cI, 8, .inl r8))] H := hP
        have hD : va_D A [(a0, .inr (2, [w0_0, .ref a2, .ref a3, w0_3, w0_4, w0_5, .int x9, w0_7, w0_8, w0_9, w0_10, w0_11])), (a2, .inl (cI, 36, .inl r7)), (a3, .inl (cI, 8, .inl r8))] := hD
        refine lv_iload_n hx hb dX2_thinPot_73 rfl (lv_at hl 0 rfl) ?_
        have hres := Option.some.inj hsp
        subst hres
        exact W.iret (v := x5) hx hb hr (fun t ht hW => ⟨⟨x5, (), rfl, rfl, P_at ht hP⟩, hS.F ht⟩) hS.2.2 dX2_thinPot_74
      have hsp := itF hsp c6
      refine lv_bipush (v := (-4)) hx hb dX2_thinPot_34 (by decide) ?_
      have hres := Option.some.inj hsp
      subst hres
      exact W.iret (v := (-4)) hx hb hr (fun t ht hW => ⟨⟨(-4), (), rfl, rfl, P_at ht hP⟩, hS.F ht⟩) hS.2.2 dX2_thinPot_36
    have hsp := itT hsp c4
    refine lv_bipush (v := (-5)) hx hb dX2_thinPot_21 (by decide) ?_
    have hres := Option.some.inj hsp
    subst hres
    exact W.iret (v := (-5)) hx hb hr (fun t ht hW => ⟨⟨(-5), (), rfl, rfl, P_at ht hP⟩, hS.F ht⟩) hS.2.2 dX2_thinPot_23
  have hsp := itT hsp c2
  refine lv_iconst (v := (-1)) hx hb dX2_thinPot_9 (by decide) ?_
  have hres := Option.some.inj hsp
  subst hres
  exact W.iret (v := (-1)) hx hb hr (fun t ht hW => ⟨⟨(-1), (), rfl, rfl, P_at ht hP⟩, hS.F ht⟩) hS.2.2 dX2_thinPot_10

theorem nd_X2_timesThinned : yX2_timesThinned.cls = RX2 ∧ yX2_timesThinned.cls ≠ "java/lang/invoke/MethodHandle" ∧ yX2_timesThinned.cls ≠ "java/lang/invoke/VarHandle" ∧ (parseMethodDescriptor yX2_timesThinned.desc).map (fun d => d.parameters.length) = some 1 := by decide +kernel
set_option maxHeartbeats 8000000 in
set_option maxRecDepth 100000 in
theorem k_X2_timesThinned (l : Launch) (D : va_G) (cI cZ cC cS : ClassId) (sz : Nat) (a0 a3 : Nat) (w0_0 : Value) (w0_1 : Value) (w0_3 : Value) (w0_4 : Value) (w0_5 : Value) (w0_6 : Value) (w0_7 : Value) (w0_8 : Value) (w0_9 : Value) (w0_10 : Value) (w0_11 : Value) (f3 : Nat → Int32) (u1 : Int32) (res : Int32) (hsp : s_X2_timesThinned f3 u1 = some res) : Met l yX2_timesThinned wsX2_timesThinned ({ frames := 1, cells := 0, slots := 0, locals := 21 }) (va_Pc [.ref a0, .int u1] (PB D cI cZ cC cS [(a0, .inr (2, [w0_0, w0_1, .ref a3, w0_3, w0_4, w0_5, w0_6, w0_7, w0_8, w0_9, w0_10, w0_11])), (a3, .inl (cI, 8, .inl f3))] sz)) (va_Qi (fun r (_ : Unit) => r = res) (fun _ t => va_P D vwCl [(a0, .inr (2, [w0_0, w0_1, .ref a3, w0_3, w0_4, w0_5, w0_6, w0_7, w0_8, w0_9, w0_10, w0_11])), (a3, .inl (cI, 8, .inl f3))] t.heap) (va_A [(a0, .inr (2, [w0_0, w0_1, .ref a3, w0_3, w0_4, w0_5, w0_6, w0_7, w0_8, w0_9, w0_10, w0_11])), (a3, .inl (cI, 8, .inl f3))] sz)) 0 0 (va_A [(a0, .inr (2, [w0_0, w0_1, .ref a3, w0_3, w0_4, w0_5, w0_6, w0_7, w0_8, w0_9, w0_10, w0_11])), (a3, .inl (cI, 8, .inl f3))] sz) := by
  refine Met.ofW (cc := cX2_timesThinned) (maxL := 2) (ret := (some .int)) (by decide) rfl ?_
  intro p e s m args below meth c s₁ B hml hv
  obtain ⟨rfl, hsz, hP, hD0, hKU⟩ := hv
  have hx := B.exec
  have hb := B.bytes
  have hr := B.returns
  have hts := atoms_spec (ws := wsX2_timesThinned) B.pre
  have hown : s.vm.findClass RX2 = some m.cls := findClass_of_methodNamed B.named
  have hlocks := B.notSynchronized
  have hK := hKU.1
  have hf_22 := hts (.fieldLink RX2 22 "ThinnedPots$Studio" "thinnings" "[I") (by decide +kernel)
  have hi_X2 : ∀ w ∈ u_ws RX2 TX2 12, w ∈ wsX2_timesThinned := by decide +kernel
  have hst_X4_at := hts (.static yX4_at) (by decide +kernel)
  have hin_X4 := hts (.initialized RX4) (by decide +kernel)
  subst hsz
  have hD := hD0.self (sz := s.heap.size)
  generalize hAe : va_A [(a0, .inr (2, [w0_0, w0_1, .ref a3, w0_3, w0_4, w0_5, w0_6, w0_7, w0_8, w0_9, w0_10, w0_11])), (a3, .inl (cI, 8, .inl f3))] s.heap.size = A at hD ⊢
  have hA : ∀ q : Nat, s.heap.size ≤ q → A q := fun q h => by rw [← hAe]; exact Or.inr h
  have hP : va_P D vwCl [(a0, .inr (2, [w0_0, w0_1, .ref a3, w0_3, w0_4, w0_5, w0_6, w0_7, w0_8, w0_9, w0_10, w0_11])), (a3, .inl (cI, 8, .inl f3))] s.heap := hP
  generalize hHe : s.heap = H at hP ⊢
  have hS : va_S A s.heap H [] := by rw [hHe]; exact va_S.rf
  have hl := lv_entry ([.ref a0, .int u1]) (n := 2) (Nat.le_of_ble_eq_true rfl)
  rw [lg_entry_eq]
  generalize (lg_sl ([.ref a0, .int u1]) ++ List.replicate (2 - (lg_sl ([.ref a0, .int u1])).length) Slot.unset).toArray = ls at hl ⊢
  have hl : lv_has ls 2 [(0, .ref a0), (1, .int u1)] := hl
  unfold s_X2_timesThinned at hsp
  refine lv_aload_n hx hb dX2_timesThinned_0 rfl (lv_at hl 0 rfl) ?_
  refine va_get (D := D) (ci := 2) (v := .ref a3) (C := RX2) (T := TX2) (N := 12) hx hb hts hi_X2 hown hK hP 0 rfl rfl 2 (by decide) hf_22 (fun _ h9 => h9) rfl dX2_timesThinned_1 ?_
  refine lv_iload_n hx hb dX2_timesThinned_4 rfl (lv_at hl 1 rfl) ?_
  obtain ⟨r1, hcr1, hsp⟩ := clE hsp
  refine call_i (w1 := [(a3, .inl (cI, 8, .inl f3))]) (ws' := [(a0, .inr (2, [w0_0, w0_1, .ref a3, w0_3, w0_4, w0_5, w0_6, w0_7, w0_8, w0_9, w0_10, w0_11])), (a3, .inl (cI, 8, .inl f3))]) (va_runSN (As := [.ref a3, .int u1]) (rest := []) ⟨hx, hb, hml, hown, hts⟩ (k_X4_at l D cI cZ cC cS H.size a3 8 f3 u1 r1 hcr1) ⟨va_cnB 2 hts gX2_timesThinned_X4_at_n61 rfl rfl rfl (mn_Studio_61 hKU.2.2) hin_X4 nd_X4_at.2 ⟨Nat.le_of_ble_eq_true rfl, Nat.le_of_ble_eq_true rfl⟩, hst_X4_at, trivial⟩ (PB.preS hKU hP hD [1] rfl rfl) rfl rfl hl.1 rfl (lv_room (Nat.le_of_ble_eq_true rfl)) dX2_timesThinned_5 ⟨Nat.zero_le _, Nat.zero_le _⟩) hS hP hD hA [1] rfl rfl (by first | (simp only [wset, List.set_cons_zero, List.set_cons_succ]; done) | rfl) rfl (fun H locs hP hD hS => ?_)
  have hres := Option.some.inj hsp
  subst hres
  exact W.iret (v := r1) hx hb hr (fun t ht hW => ⟨⟨r1, (), rfl, rfl, P_at ht hP⟩, hS.F ht⟩) hS.2.2 dX2_timesThinned_8

theorem nd_X2_wantShade : yX2_wantShade.cls = RX2 ∧ yX2_wantShade.cls ≠ "java/lang/invoke/MethodHandle" ∧ yX2_wantShade.cls ≠ "java/lang/invoke/VarHandle" ∧ (parseMethodDescriptor yX2_wantShade.desc).map (fun d => d.parameters.length) = some 4 := by decide +kernel
set_option maxHeartbeats 8000000 in
set_option maxRecDepth 100000 in
theorem k_X2_wantShade (l : Launch) (D : va_G) (cI cZ cC cS : ClassId) (sz : Nat) (a0 a1 a4 a5 a6 : Nat) (w0_1 : Value) (w0_2 : Value) (w0_6 : Value) (w0_7 : Value) (w0_8 : Value) (w0_9 : Value) (w0_10 : Value) (w0_11 : Value) (f1 : Nat → Int32) (f4 : Nat → Int32) (f5 : Nat → Int32) (f6 : Nat → Int32) (u1 : Int32) (u2 : Int32) (u3 : Int32) (u4 : Int32) (res : Int32 × (Nat → Int32)) (hsp : s_X2_wantShade f1 f4 f5 f6 u1 u2 u3 u4 = some res) : Met l yX2_wantShade wsX2_wantShade ({ frames := 5, cells := 0, slots := 0, locals := 114 }) (va_Pc [.ref a0, .int u1, .int u2, .int u3, .int u4] (PB D cI cZ cC cS [(a0, .inr (2, [.ref a1, w0_1, w0_2, .ref a4, .ref a5, .ref a6, w0_6, w0_7, w0_8, w0_9, w0_10, w0_11])), (a1, .inl (cI, 2, .inl f1)), (a4, .inl (cI, 18, .inl f4)), (a5, .inl (cI, 18, .inl f5)), (a6, .inl (cI, 6, .inl f6))] sz)) (va_Qi (fun r (_ : Unit) => r = res.1) (fun _ t => va_P D vwCl [(a0, .inr (2, [.ref a1, w0_1, w0_2, .ref a4, .ref a5, .ref a6, w0_6, w0_7, w0_8, w0_9, w0_10, w0_11])), (a1, .inl (cI, 2, .inl f1)), (a4, .inl (cI, 18, .inl res.2)), (a5, .inl (cI, 18, .inl f5)), (a6, .inl (cI, 6, .inl f6))] t.heap) (va_A [(a0, .inr (2, [.ref a1, w0_1, w0_2, .ref a4, .ref a5, .ref a6, w0_6, w0_7, w0_8, w0_9, w0_10, w0_11])), (a1, .inl (cI, 2, .inl f1)), (a4, .inl (cI, 18, .inl f4)), (a5, .inl (cI, 18, .inl f5)), (a6, .inl (cI, 6, .inl f6))] sz)) 0 0 (va_A [(a0, .inr (2, [.ref a1, w0_1, w0_2, .ref a4, .ref a5, .ref a6, w0_6, w0_7, w0_8, w0_9, w0_10, w0_11])), (a1, .inl (cI, 2, .inl f1)), (a4, .inl (cI, 18, .inl f4)), (a5, .inl (cI, 18, .inl f5)), (a6, .inl (cI, 6, .inl f6))] sz) := by
  refine Met.ofW (cc := cX2_wantShade) (maxL := 5) (ret := (some .int)) (by decide) rfl ?_
  intro p e s m args below meth c s₁ B hml hv
  obtain ⟨rfl, hsz, hP, hD0, hKU⟩ := hv
  have hx := B.exec
  have hb := B.bytes
  have hr := B.returns
  have hts := atoms_spec (ws := wsX2_wantShade) B.pre
  have hown : s.vm.findClass RX2 = some m.cls := findClass_of_methodNamed B.named
  have hlocks := B.notSynchronized
  have hK := hKU.1
  have hst_X4_isWithin := hts (.static yX4_isWithin) (by decide +kernel)
  have hin_X4 := hts (.initialized RX4) (by decide +kernel)
  have hf_25 := hts (.fieldLink RX2 25 "ThinnedPots$Studio" "wanted" "[I") (by decide +kernel)
  have hi_X2 : ∀ w ∈ u_ws RX2 TX2 12, w ∈ wsX2_wantShade := by decide +kernel
  have hst_X4_write := hts (.static yX4_write) (by decide +kernel)
  subst hsz
  have hD := hD0.self (sz := s.heap.size)
  generalize hAe : va_A [(a0, .inr (2, [.ref a1, w0_1, w0_2, .ref a4, .ref a5, .ref a6, w0_6, w0_7, w0_8, w0_9, w0_10, w0_11])), (a1, .inl (cI, 2, .inl f1)), (a4, .inl (cI, 18, .inl f4)), (a5, .inl (cI, 18, .inl f5)), (a6, .inl (cI, 6, .inl f6))] s.heap.size = A at hD ⊢
  have hA : ∀ q : Nat, s.heap.size ≤ q → A q := fun q h => by rw [← hAe]; exact Or.inr h
  have hP : va_P D vwCl [(a0, .inr (2, [.ref a1, w0_1, w0_2, .ref a4, .ref a5, .ref a6, w0_6, w0_7, w0_8, w0_9, w0_10, w0_11])), (a1, .inl (cI, 2, .inl f1)), (a4, .inl (cI, 18, .inl f4)), (a5, .inl (cI, 18, .inl f5)), (a6, .inl (cI, 6, .inl f6))] s.heap := hP
  generalize hHe : s.heap = H at hP ⊢
  have hS : va_S A s.heap H [] := by rw [hHe]; exact va_S.rf
  have hl := lv_entry ([.ref a0, .int u1, .int u2, .int u3, .int u4]) (n := 5) (Nat.le_of_ble_eq_true rfl)
  rw [lg_entry_eq]
  generalize (lg_sl ([.ref a0, .int u1, .int u2, .int u3, .int u4]) ++ List.replicate (5 - (lg_sl ([.ref a0, .int u1, .int u2, .int u3, .int u4])).length) Slot.unset).toArray = ls at hl ⊢
  have hl : lv_has ls 5 [(0, .ref a0), (1, .int u1), (2, .int u2), (3, .int u3), (4, .int u4)] := hl
  unfold s_X2_wantShade at hsp
  refine lv_iload_n hx hb dX2_wantShade_0 rfl (lv_at hl 1 rfl) ?_
  refine lv_bipush (v := 6) hx hb dX2_wantShade_1 (by decide) ?_
  obtain ⟨r1, hcr1, hsp⟩ := clE hsp
  refine call_z (w1 := []) (ws' := [(a0, .inr (2, [.ref a1, w0_1, w0_2, .ref a4, .ref a5, .ref a6, w0_6, w0_7, w0_8, w0_9, w0_10, w0_11])), (a1, .inl (cI, 2, .inl f1)), (a4, .inl (cI, 18, .inl f4)), (a5, .inl (cI, 18, .inl f5)), (a6, .inl (cI, 6, .inl f6))]) (va_runSN (As := [.int u1, .int 6]) (rest := []) ⟨hx, hb, hml, hown, hts⟩ (k_X4_isWithin l D cI cZ cC cS H.size u1 6 r1 hcr1) ⟨va_cnB 2 hts gX2_wantShade_X4_isWithin_n65 rfl rfl rfl (mn_Studio_65 hKU.2.2) hin_X4 nd_X4_isWithin.2 ⟨Nat.le_of_ble_eq_true rfl, Nat.le_of_ble_eq_true rfl⟩, hst_X4_isWithin, trivial⟩ (PB.preS hKU hP hD [] rfl rfl) rfl rfl hl.1 rfl (lv_room (Nat.le_of_ble_eq_true rfl)) dX2_wantShade_3 ⟨Nat.zero_le _, Nat.zero_le _⟩) hS hP hD hA [] rfl rfl (by first | (simp only [wset, List.set_cons_zero, List.set_cons_succ]; done) | rfl) rfl (fun H locs hP hD hS hzr1 => ?_)
  refine lv_if_ne (tgt := 11) hx hb dX2_wantShade_6 (by decide) (fun c2 => ?_) (fun c2 => ?_)
  · have hsp := itF hsp c2
    refine lv_iload_n hx hb dX2_wantShade_11 rfl (lv_at hl 2 rfl) ?_
    obtain ⟨r3, hcr3, hsp⟩ := clE hsp
    refine call_z (w1 := []) (ws' := [(a0, .inr (2, [.ref a1, w0_1, w0_2, .ref a4, .ref a5, .ref a6, w0_6, w0_7, w0_8, w0_9, w0_10, w0_11])), (a1, .inl (cI, 2, .inl f1)), (a4, .inl (cI, 18, .inl f4)), (a5, .inl (cI, 18, .inl f5)), (a6, .inl (cI, 6, .inl f6))]) (va_runS (As := [.int u2]) (rest := []) ⟨hx, hb, hml, hown, hts⟩ (k_X2_isStrength l D cI cZ cC cS H.size u2 r3 hcr3) (va_cwS 1 hts gX2_wantShade_X2_isStrength rfl rfl rfl nd_X2_isStrength.2 ⟨Nat.le_of_ble_eq_true rfl, Nat.le_of_ble_eq_true rfl⟩) (PB.preS hKU hP hD [] rfl rfl) rfl rfl hl.1 rfl (lv_room (Nat.le_of_ble_eq_true rfl)) dX2_wantShade_12 ⟨Nat.zero_le _, Nat.zero_le _⟩) hS hP hD hA [] rfl rfl (by first | (simp only [wset, List.set_cons_zero, List.set_cons_succ]; done) | rfl) rfl (fun H locs hP hD hS hzr3 => ?_)
    refine lv_if_eq (tgt := 33) hx hb dX2_wantShade_15 (by decide) (fun c4 => ?_) (fun c4 => ?_)
    · have hsp := itT hsp c4
      refine lv_bipush (v := (-2)) hx hb dX2_wantShade_33 (by decide) ?_
      have hres := Option.some.inj hsp
      subst hres
      exact W.iret (v := (-2)) hx hb hr (fun t ht hW => ⟨⟨(-2), (), rfl, rfl, P_at ht hP⟩, hS.F ht⟩) hS.2.2 dX2_wantShade_35
    have hsp := itF hsp c4
    refine lv_iload_n hx hb dX2_wantShade_18 rfl (lv_at hl 3 rfl) ?_
    obtain ⟨r5, hcr5, hsp⟩ := clE hsp
    refine call_z (w1 := []) (ws' := [(a0, .inr (2, [.ref a1, w0_1, w0_2, .ref a4, .ref a5, .ref a6, w0_6, w0_7, w0_8, w0_9, w0_10, w0_11])), (a1, .inl (cI, 2, .inl f1)), (a4, .inl (cI, 18, .inl f4)), (a5, .inl (cI, 18, .inl f5)), (a6, .inl (cI, 6, .inl f6))]) (va_runS (As := [.int u3]) (rest := []) ⟨hx, hb, hml, hown, hts⟩ (k_X2_isStrength l D cI cZ cC cS H.size u3 r5 hcr5) (va_cwS 1 hts gX2_wantShade_X2_isStrength rfl rfl rfl nd_X2_isStrength.2 ⟨Nat.le_of_ble_eq_true rfl, Nat.le_of_ble_eq_true rfl⟩) (PB.preS hKU hP hD [] rfl rfl) rfl rfl hl.1 rfl (lv_room (Nat.le_of_ble_eq_true rfl)) dX2_wantShade_19 ⟨Nat.zero_le _, Nat.zero_le _⟩) hS hP hD hA [] rfl rfl (by first | (simp only [wset, List.set_cons_zero, List.set_cons_succ]; done) | rfl) rfl (fun H locs hP hD hS hzr5 => ?_)
    refine lv_if_eq (tgt := 33) hx hb dX2_wantShade_22 (by decide) (fun c6 => ?_) (fun c6 => ?_)
    · have hsp := itT hsp c6
      refine lv_bipush (v := (-2)) hx hb dX2_wantShade_33 (by decide) ?_
      have hres := Option.some.inj hsp
      subst hres
      exact W.iret (v := (-2)) hx hb hr (fun t ht hW => ⟨⟨(-2), (), rfl, rfl, P_at ht hP⟩, hS.F ht⟩) hS.2.2 dX2_wantShade_35
    have hsp := itF hsp c6
    refine lv_iload hx hb dX2_wantShade_25 (lv_at hl 4 rfl) ?_
    obtain ⟨r7, hcr7, hsp⟩ := clE hsp
    refine call_z (w1 := []) (ws' := [(a0, .inr (2, [.ref a1, w0_1, w0_2, .ref a4, .ref a5, .ref a6, w0_6, w0_7, w0_8, w0_9, w0_10, w0_11])), (a1, .inl (cI, 2, .inl f1)), (a4, .inl (cI, 18, .inl f4)), (a5, .inl (cI, 18, .inl f5)), (a6, .inl (cI, 6, .inl f6))]) (va_runS (As := [.int u4]) (rest := []) ⟨hx, hb, hml, hown, hts⟩ (k_X2_isStrength l D cI cZ cC cS H.size u4 r7 hcr7) (va_cwS 1 hts gX2_wantShade_X2_isStrength rfl rfl rfl nd_X2_isStrength.2 ⟨Nat.le_of_ble_eq_true rfl, Nat.le_of_ble_eq_true rfl⟩) (PB.preS hKU hP hD [] rfl rfl) rfl rfl hl.1 rfl (lv_room (Nat.le_of_ble_eq_true rfl)) dX2_wantShade_27 ⟨Nat.zero_le _, Nat.zero_le _⟩) hS hP hD hA [] rfl rfl (by first | (simp only [wset, List.set_cons_zero, List.set_cons_succ]; done) | rfl) rfl (fun H locs hP hD hS hzr7 => ?_)
    refine lv_if_ne (tgt := 36) hx hb dX2_wantShade_30 (by decide) (fun c8 => ?_) (fun c8 => ?_)
    · have hsp := itF hsp c8
      refine lv_aload_n hx hb dX2_wantShade_36 rfl (lv_at hl 0 rfl) ?_
      refine va_get (D := D) (ci := 2) (v := .ref a4) (C := RX2) (T := TX2) (N := 12) hx hb hts hi_X2 hown hK hP 0 rfl rfl 3 (by decide) hf_25 (fun _ h9 => h9) rfl dX2_wantShade_37 ?_
      refine lv_iload_n hx hb dX2_wantShade_40 rfl (lv_at hl 1 rfl) ?_
      refine lv_iconst (v := 3) hx hb dX2_wantShade_41 (by decide) ?_
      refine lv_imul hx hb dX2_wantShade_42 ?_
      refine lv_iload_n hx hb dX2_wantShade_43 rfl (lv_at hl 2 rfl) ?_
      obtain ⟨r9, hcr9, hsp⟩ := clE hsp
      refine call_v (w1 := [(a4, .inl (cI, 18, .inl r9))]) (ws' := [(a0, .inr (2, [.ref a1, w0_1, w0_2, .ref a4, .ref a5, .ref a6, w0_6, w0_7, w0_8, w0_9, w0_10, w0_11])), (a1, .inl (cI, 2, .inl f1)), (a4, .inl (cI, 18, .inl r9)), (a5, .inl (cI, 18, .inl f5)), (a6, .inl (cI, 6, .inl f6))]) (va_runSN (As := [.ref a4, .int (u1 * 3), .int u2]) (rest := []) ⟨hx, hb, hml, hown, hts⟩ (k_X4_write l D cI cZ cC cS H.size a4 18 f4 (u1 * 3) u2 r9 hcr9) ⟨va_cnB 3 hts gX2_wantShade_X4_write_n15 rfl rfl rfl (mn_Studio_15 hKU.2.2) hin_X4 nd_X4_write.2 ⟨Nat.le_of_ble_eq_true rfl, Nat.le_of_ble_eq_true rfl⟩, hst_X4_write, trivial⟩ (PB.preS hKU hP hD [2] rfl rfl) rfl rfl hl.1 rfl (lv_room (Nat.le_of_ble_eq_true rfl)) dX2_wantShade_44 ⟨Nat.zero_le _, Nat.zero_le _⟩) hS hP hD hA [2] rfl rfl (by first | (simp only [wset, List.set_cons_zero, List.set_cons_succ]; done) | rfl) rfl (fun H locs hP hD hS => ?_)
      refine lv_aload_n hx hb dX2_wantShade_47 rfl (lv_at hl 0 rfl) ?_
      refine va_get (D := D) (ci := 2) (v := .ref a4) (C := RX2) (T := TX2) (N := 12) hx hb hts hi_X2 hown hK hP 0 rfl rfl 3 (by decide) hf_25 (fun _ h9 => h9) rfl dX2_wantShade_48 ?_
      refine lv_iload_n hx hb dX2_wantShade_51 rfl (lv_at hl 1 rfl) ?_
      refine lv_iconst (v := 3) hx hb dX2_wantShade_52 (by decide) ?_
      refine lv_imul hx hb dX2_wantShade_53 ?_
      refine lv_iconst (v := 1) hx hb dX2_wantShade_54 (by decide) ?_
      refine lv_iadd hx hb dX2_wantShade_55 ?_
      refine lv_iload_n hx hb dX2_wantShade_56 rfl (lv_at hl 3 rfl) ?_
      obtain ⟨r10, hcr10, hsp⟩ := clE hsp
      refine call_v (w1 := [(a4, .inl (cI, 18, .inl r10))]) (ws' := [(a0, .inr (2, [.ref a1, w0_1, w0_2, .ref a4, .ref a5, .ref a6, w0_6, w0_7, w0_8, w0_9, w0_10, w0_11])), (a1, .inl (cI, 2, .inl f1)), (a4, .inl (cI, 18, .inl r10)), (a5, .inl (cI, 18, .inl f5)), (a6, .inl (cI, 6, .inl f6))]) (va_runSN (As := [.ref a4, .int ((u1 * 3) + 1), .int u3]) (rest := []) ⟨hx, hb, hml, hown, hts⟩ (k_X4_write l D cI cZ cC cS H.size a4 18 r9 ((u1 * 3) + 1) u3 r10 hcr10) ⟨va_cnB 3 hts gX2_wantShade_X4_write_n15 rfl rfl rfl (mn_Studio_15 hKU.2.2) hin_X4 nd_X4_write.2 ⟨Nat.le_of_ble_eq_true rfl, Nat.le_of_ble_eq_true rfl⟩, hst_X4_write, trivial⟩ (PB.preS hKU hP hD [2] rfl rfl) rfl rfl hl.1 rfl (lv_room (Nat.le_of_ble_eq_true rfl)) dX2_wantShade_57 ⟨Nat.zero_le _, Nat.zero_le _⟩) hS hP hD hA [2] rfl rfl (by first | (simp only [wset, List.set_cons_zero, List.set_cons_succ]; done) | rfl) rfl (fun H locs hP hD hS => ?_)
      refine lv_aload_n hx hb dX2_wantShade_60 rfl (lv_at hl 0 rfl) ?_
      refine va_get (D := D) (ci := 2) (v := .ref a4) (C := RX2) (T := TX2) (N := 12) hx hb hts hi_X2 hown hK hP 0 rfl rfl 3 (by decide) hf_25 (fun _ h9 => h9) rfl dX2_wantShade_61 ?_
      refine lv_iload_n hx hb dX2_wantShade_64 rfl (lv_at hl 1 rfl) ?_
      refine lv_iconst (v := 3) hx hb dX2_wantShade_65 (by decide) ?_
      refine lv_imul hx hb dX2_wantShade_66 ?_
      refine lv_iconst (v := 2) hx hb dX2_wantShade_67 (by decide) ?_
      refine lv_iadd hx hb dX2_wantShade_68 ?_
      refine lv_iload hx hb dX2_wantShade_69 (lv_at hl 4 rfl) ?_
      obtain ⟨r11, hcr11, hsp⟩ := clE hsp
      refine call_v (w1 := [(a4, .inl (cI, 18, .inl r11))]) (ws' := [(a0, .inr (2, [.ref a1, w0_1, w0_2, .ref a4, .ref a5, .ref a6, w0_6, w0_7, w0_8, w0_9, w0_10, w0_11])), (a1, .inl (cI, 2, .inl f1)), (a4, .inl (cI, 18, .inl r11)), (a5, .inl (cI, 18, .inl f5)), (a6, .inl (cI, 6, .inl f6))]) (va_runSN (As := [.ref a4, .int ((u1 * 3) + 2), .int u4]) (rest := []) ⟨hx, hb, hml, hown, hts⟩ (k_X4_write l D cI cZ cC cS H.size a4 18 r10 ((u1 * 3) + 2) u4 r11 hcr11) ⟨va_cnB 3 hts gX2_wantShade_X4_write_n15 rfl rfl rfl (mn_Studio_15 hKU.2.2) hin_X4 nd_X4_write.2 ⟨Nat.le_of_ble_eq_true rfl, Nat.le_of_ble_eq_true rfl⟩, hst_X4_write, trivial⟩ (PB.preS hKU hP hD [2] rfl rfl) rfl rfl hl.1 rfl (lv_room (Nat.le_of_ble_eq_true rfl)) dX2_wantShade_71 ⟨Nat.zero_le _, Nat.zero_le _⟩) hS hP hD hA [2] rfl rfl (by first | (simp only [wset, List.set_cons_zero, List.set_cons_succ]; done) | rfl) rfl (fun H locs hP hD hS => ?_)
      refine lv_aload_n hx hb dX2_wantShade_74 rfl (lv_at hl 0 rfl) ?_
      obtain ⟨r12, hcr12, hsp⟩ := clE hsp
      refine call_i (w1 := [(a0, .inr (2, [.ref a1, w0_1, w0_2, .ref a4, .ref a5, .ref a6, w0_6, w0_7, w0_8, w0_9, w0_10, w0_11])), (a1, .inl (cI, 2, .inl f1)), (a4, .inl (cI, 18, .inl r11)), (a5, .inl (cI, 18, .inl f5)), (a6, .inl (cI, 6, .inl f6))]) (ws' := [(a0, .inr (2, [.ref a1, w0_1, w0_2, .ref a4, .ref a5, .ref a6, w0_6, w0_7, w0_8, w0_9, w0_10, w0_11])), (a1, .inl (cI, 2, .inl f1)), (a4, .inl (cI, 18, .inl r11)), (a5, .inl (cI, 18, .inl f5)), (a6, .inl (cI, 6, .inl f6))]) (va_runV (As := []) (rest := []) ⟨hx, hb, hml, hown, hts⟩ (k_X2_panelsWell l D cI cZ cC cS H.size a0 a1 a4 a5 a6 (w0_1) (w0_2) (w0_6) (w0_7) (w0_8) (w0_9) (w0_10) (w0_11) f1 r11 f5 f6 r12 hcr12) (cwV 0 hts gX2_wantShade_X2_panelsWell rfl rfl rfl nd_X2_panelsWell ⟨Nat.le_of_ble_eq_true rfl, Nat.le_of_ble_eq_true rfl⟩) (PB.preV (ci := 2) (q0 := 0) hKU hP hD [0, 1, 2, 3, 4] rfl rfl rfl rfl) rfl rfl hl.1 rfl (lv_room (Nat.le_of_ble_eq_true rfl)) dX2_wantShade_75 ⟨Nat.zero_le _, Nat.zero_le _⟩) hS hP hD hA [0, 1, 2, 3, 4] rfl rfl (by first | (simp only [wset, List.set_cons_zero, List.set_cons_succ]; done) | rfl) rfl (fun H locs hP hD hS => ?_)
      have hres := Option.some.inj hsp
      subst hres
      exact W.iret (v := r12) hx hb hr (fun t ht hW => ⟨⟨r12, (), rfl, rfl, P_at ht hP⟩, hS.F ht⟩) hS.2.2 dX2_wantShade_78
    have hsp := itT hsp c8
    refine lv_bipush (v := (-2)) hx hb dX2_wantShade_33 (by decide) ?_
    have hres := Option.some.inj hsp
    subst hres
    exact W.iret (v := (-2)) hx hb hr (fun t ht hW => ⟨⟨(-2), (), rfl, rfl, P_at ht hP⟩, hS.F ht⟩) hS.2.2 dX2_wantShade_35
  have hsp := itT hsp c2
  refine lv_iconst (v := (-1)) hx hb dX2_wantShade_9 (by decide) ?_
  have hres := Option.some.inj hsp
  subst hres
  exact W.iret (v := (-1)) hx hb hr (fun t ht hW => ⟨⟨(-1), (), rfl, rfl, P_at ht hP⟩, hS.F ht⟩) hS.2.2 dX2_wantShade_10

theorem nd_X4_studioAt : yX4_studioAt.cls = RX4 ∧ yX4_studioAt.cls ≠ "java/lang/invoke/MethodHandle" ∧ yX4_studioAt.cls ≠ "java/lang/invoke/VarHandle" ∧ (parseMethodDescriptor yX4_studioAt.desc).map (fun d => d.parameters.length) = some 2 := by decide +kernel
set_option maxHeartbeats 8000000 in
set_option maxRecDepth 100000 in
theorem k_X4_studioAt (l : Launch) (D : va_G) (cI cZ cC cS : ClassId) (sz : Nat) (a0 : Nat) (n0 : Nat) (f0 : Nat → Option Nat) (u1 : Int32) (res : Option Nat) (hsp : s_X4_studioAt n0 f0 u1 = some res) : Met l yX4_studioAt wsX4_studioAt ({ frames := 0, cells := 0, slots := 0, locals := 0 }) (va_Pc [.ref a0, .int u1] (PB D cI cZ cC cS [(a0, .inl (cS, n0, .inr (.inr (.inr (.inr f0)))))] sz)) (va_Qq (fun r (_ : Unit) => r = res) (fun _ t => va_P D vwCl [(a0, .inl (cS, n0, .inr (.inr (.inr (.inr f0)))))] t.heap) (va_A [(a0, .inl (cS, n0, .inr (.inr (.inr (.inr f0)))))] sz)) 0 0 (va_A [(a0, .inl (cS, n0, .inr (.inr (.inr (.inr f0)))))] sz) := by
  refine Met.ofW (cc := cX4_studioAt) (maxL := 2) (ret := (some (.object "ThinnedPots$Studio"))) (by decide) rfl ?_
  intro p e s m args below meth c s₁ B hml hv
  obtain ⟨rfl, hsz, hP, hD0, hKU⟩ := hv
  have hx := B.exec
  have hb := B.bytes
  have hr := B.returns
  have hts := atoms_spec (ws := wsX4_studioAt) B.pre
  have hown : s.vm.findClass RX4 = some m.cls := findClass_of_methodNamed B.named
  have hlocks := B.notSynchronized
  have hK := hKU.1
  subst hsz
  have hD := hD0.self (sz := s.heap.size)
  generalize hAe : va_A [(a0, .inl (cS, n0, .inr (.inr (.inr (.inr f0)))))] s.heap.size = A at hD ⊢
  have hA : ∀ q : Nat, s.heap.size ≤ q → A q := fun q h => by rw [← hAe]; exact Or.inr h
  have hP : va_P D vwCl [(a0, .inl (cS, n0, .inr (.inr (.inr (.inr f0)))))] s.heap := hP
  generalize hHe : s.heap = H at hP ⊢
  have hS : va_S A s.heap H [] := by rw [hHe]; exact va_S.rf
  have hl := lv_entry ([.ref a0, .int u1]) (n := 2) (Nat.le_of_ble_eq_true rfl)
  rw [lg_entry_eq]
  generalize (lg_sl ([.ref a0, .int u1]) ++ List.replicate (2 - (lg_sl ([.ref a0, .int u1])).length) Slot.unset).toArray = ls at hl ⊢
  have hl : lv_has ls 2 [(0, .ref a0), (1, .int u1)] := hl
  unfold s_X4_studioAt at hsp
  refine lv_aload_n hx hb dX4_studioAt_0 rfl (lv_at hl 0 rfl) ?_
  refine lv_ifnull hx hb dX4_studioAt_1 ?_
  refine lv_iload_n hx hb dX4_studioAt_4 rfl (lv_at hl 1 rfl) ?_
  refine lv_if_lt (tgt := 14) hx hb dX4_studioAt_5 (by decide) (fun c1 => ?_) (fun c1 => ?_)
  · have hsp := itT hsp c1
    refine lv_null hx hb dX4_studioAt_14 ?_
    have hres := Option.some.inj hsp
    subst hres
    exact W.aret (v := .null) hx hb hr (Or.inl ⟨_, rfl⟩) (Or.inl rfl) (fun t ht hW => ⟨⟨none, (), rfl, rfl, P_at ht hP⟩, hS.F ht⟩) hS.2.2 dX4_studioAt_15
  have hsp := itF hsp c1
  refine lv_iload_n hx hb dX4_studioAt_8 rfl (lv_at hl 1 rfl) ?_
  refine lv_aload_n hx hb dX4_studioAt_9 rfl (lv_at hl 0 rfl) ?_
  refine va_alen (v := Int32.ofNat n0) hx hb hK hP 0 3 rfl rfl rfl dX4_studioAt_10 ?_
  refine lv_icmp_lt (tgt := 16) hx hb dX4_studioAt_11 (by decide) (fun c2 => ?_) (fun c2 => ?_)
  · have hsp := itT hsp c2
    refine lv_aload_n hx hb dX4_studioAt_16 rfl (lv_at hl 0 rfl) ?_
    refine lv_iload_n hx hb dX4_studioAt_17 rfl (lv_at hl 1 rfl) ?_
    obtain ⟨q3, eq3, hnq3, hsp⟩ := ldqE hsp
    refine va_aldq hx hb hK hP 0 3 rfl rfl hnq3 dX4_studioAt_18 ?_
    rw [← eq3]
    have hres := Option.some.inj hsp
    subst hres
    exact W.aret (v := va_rf q3) hx hb hr (Or.inl ⟨_, rfl⟩) (va_rf_or _) (fun t ht hW => ⟨⟨q3, (), rfl, rfl, P_at ht hP⟩, hS.F ht⟩) hS.2.2 dX4_studioAt_19
  have hsp := itF hsp c2
  refine lv_null hx hb dX4_studioAt_14 ?_
  have hres := Option.some.inj hsp
  subst hres
  exact W.aret (v := .null) hx hb hr (Or.inl ⟨_, rfl⟩) (Or.inl rfl) (fun t ht hW => ⟨⟨none, (), rfl, rfl, P_at ht hP⟩, hS.F ht⟩) hS.2.2 dX4_studioAt_15
