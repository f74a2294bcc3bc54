theorem nd_X1_readWork : yX1_readWork.cls = RX1 ∧ yX1_readWork.cls ≠ "java/lang/invoke/MethodHandle" ∧ yX1_readWork.cls ≠ "java/lang/invoke/VarHandle" ∧ (parseMethodDescriptor yX1_readWork.desc).map (fun d => d.parameters.length) = some 0 := by decide +kernel
set_option maxHeartbeats 8000000 in
set_option maxRecDepth 100000 in
theorem k_X1_readWork (l : Launch) (D : va_G) (cI cZ cC cS : ClassId) (sz : Nat) (a0 a1 a2 a3 : Nat) (g0_1 : Int32) (g0_2 : Int32) (f1 : Nat → Int32) (g2_0 : Int32) (g2_1 : Int32) (g2_2 : Int32) (g2_3 : Int32) (f3 : Nat → Int32) (res : Int32 × Int32 × Int32 × Int32 × Int32 × Int32 × (Nat → Int32)) (hsp : s_X1_readWork g0_1 g0_2 f1 g2_0 g2_1 g2_2 g2_3 f3 = some res) : Met l yX1_readWork wsX1_readWork ({ frames := 4, cells := 0, slots := 0, locals := 90 }) (va_Pc [.ref a0] (PB D cI cZ cC cS [(a0, .inr (1, [.ref a1, .int g0_1, .int g0_2, .ref a2])), (a1, .inl (cI, 60, .inl f1)), (a2, .inr (3, [.int g2_0, .int g2_1, .int g2_2, .int g2_3, .ref a3])), (a3, .inl (cI, 4, .inl f3))] sz)) (va_Qi (fun r (_ : Unit) => r = res.1 ∧ (res.1 = 0 ∨ res.1 = 1)) (fun _ t => va_P D vwCl [(a0, .inr (1, [.ref a1, .int g0_1, .int res.2.1, .ref a2])), (a1, .inl (cI, 60, .inl f1)), (a2, .inr (3, [.int res.2.2.1, .int res.2.2.2.1, .int res.2.2.2.2.1, .int res.2.2.2.2.2.1, .ref a3])), (a3, .inl (cI, 4, .inl res.2.2.2.2.2.2))] t.heap) (va_A [(a0, .inr (1, [.ref a1, .int g0_1, .int g0_2, .ref a2])), (a1, .inl (cI, 60, .inl f1)), (a2, .inr (3, [.int g2_0, .int g2_1, .int g2_2, .int g2_3, .ref a3])), (a3, .inl (cI, 4, .inl f3))] sz)) 0 0 (va_A [(a0, .inr (1, [.ref a1, .int g0_1, .int g0_2, .ref a2])), (a1, .inl (cI, 60, .inl f1)), (a2, .inr (3, [.int g2_0, .int g2_1, .int g2_2, .int g2_3, .ref a3])), (a3, .inl (cI, 4, .inl f3))] sz) := by
  refine Met.ofW (cc := cX1_readWork) (maxL := 5) (ret := (some .boolean)) (by decide) rfl ?_
  intro p e s m args below meth c s₁ B hml hv
  obtain ⟨rfl, hsz, hP, hD0, hKU⟩ := hv
  have hx := B.exec
  have hb := B.bytes
  have hr := B.returns
  have hts := atoms_spec (ws := wsX1_readWork) B.pre
  have hown : s.vm.findClass RX1 = some m.cls := findClass_of_methodNamed B.named
  have hlocks := B.notSynchronized
  have hK := hKU.1
  have hf_19 := hts (.fieldLink RX1 19 "ThinnedPots$Pad" "place" "I") (by decide +kernel)
  have hi_X1 : ∀ w ∈ u_ws RX1 TX1 4, w ∈ wsX1_readWork := by decide +kernel
  have hf_25 := hts (.fieldLink RX1 25 "ThinnedPots$Pad" "work" "LThinnedPots$Work;") (by decide +kernel)
  subst hsz
  have hD := hD0.self (sz := s.heap.size)
  generalize hAe : va_A [(a0, .inr (1, [.ref a1, .int g0_1, .int g0_2, .ref a2])), (a1, .inl (cI, 60, .inl f1)), (a2, .inr (3, [.int g2_0, .int g2_1, .int g2_2, .int g2_3, .ref a3])), (a3, .inl (cI, 4, .inl f3))] s.heap.size = A at hD ⊢
  have hA : ∀ q : Nat, s.heap.size ≤ q → A q := fun q h => by rw [← hAe]; exact Or.inr h
  have hP : va_P D vwCl [(a0, .inr (1, [.ref a1, .int g0_1, .int g0_2, .ref a2])), (a1, .inl (cI, 60, .inl f1)), (a2, .inr (3, [.int g2_0, .int g2_1, .int g2_2, .int g2_3, .ref a3])), (a3, .inl (cI, 4, .inl f3))] s.heap := hP
  generalize hHe : s.heap = H at hP ⊢
  have hS : va_S A s.heap H [] := by rw [hHe]; exact va_S.rf
  have hl := lv_entry ([.ref a0]) (n := 5) (Nat.le_of_ble_eq_true rfl)
  rw [lg_entry_eq]
  generalize (lg_sl ([.ref a0]) ++ List.replicate (5 - (lg_sl ([.ref a0])).length) Slot.unset).toArray = ls at hl ⊢
  have hl : lv_has ls 5 [(0, .ref a0)] := hl
  unfold s_X1_readWork at hsp
  refine lv_aload_n hx hb dX1_readWork_0 rfl (lv_at hl 0 rfl) ?_
  refine lv_iconst (v := 0) hx hb dX1_readWork_1 (by decide) ?_
  refine lv_bipush (v := 7) hx hb dX1_readWork_2 (by decide) ?_
  obtain ⟨r1, hcr1, hsp⟩ := clE hsp
  refine call_i (w1 := [(a0, .inr (1, [.ref a1, .int g0_1, .int r1.2, .ref a2])), (a1, .inl (cI, 60, .inl f1))]) (ws' := [(a0, .inr (1, [.ref a1, .int g0_1, .int r1.2, .ref a2])), (a1, .inl (cI, 60, .inl f1)), (a2, .inr (3, [.int g2_0, .int g2_1, .int g2_2, .int g2_3, .ref a3])), (a3, .inl (cI, 4, .inl f3))]) (va_runV (As := [.int 0, .int 7]) (rest := []) ⟨hx, hb, hml, hown, hts⟩ (k_X1_readDigit l D cI cZ cC cS H.size a0 a1 g0_1 g0_2 (.ref a2) f1 0 7 r1 hcr1) (cwV 2 hts gX1_readWork_X1_readDigit rfl rfl rfl nd_X1_readDigit ⟨Nat.le_of_ble_eq_true rfl, Nat.le_of_ble_eq_true rfl⟩) (PB.preV (ci := 1) (q0 := 0) hKU hP hD [0, 1] rfl rfl rfl rfl) rfl rfl hl.1 rfl (lv_room (Nat.le_of_ble_eq_true rfl)) dX1_readWork_4 ⟨Nat.zero_le _, Nat.zero_le _⟩) hS hP hD hA [0, 1] rfl rfl (by first | (simp only [wset, List.set_cons_zero, List.set_cons_succ]; done) | rfl) rfl (fun H locs hP hD hS => ?_)
  refine lv_istore_n (lv' := [(1, .int r1.1), (0, .ref a0)]) hx hb dX1_readWork_7 rfl hl (by decide) rfl (fun ls hl => ?_)
  refine lv_aload_n hx hb dX1_readWork_8 rfl (lv_at hl 1 rfl) ?_
  obtain ⟨r2, hcr2, hsp⟩ := clE hsp
  refine call_i (w1 := [(a0, .inr (1, [.ref a1, .int g0_1, .int r1.2, .ref a2])), (a1, .inl (cI, 60, .inl f1))]) (ws' := [(a0, .inr (1, [.ref a1, .int g0_1, .int r1.2, .ref a2])), (a1, .inl (cI, 60, .inl f1)), (a2, .inr (3, [.int g2_0, .int g2_1, .int g2_2, .int g2_3, .ref a3])), (a3, .inl (cI, 4, .inl f3))]) (va_runV (As := []) (rest := []) ⟨hx, hb, hml, hown, hts⟩ (k_X1_sign l D cI cZ cC cS H.size a0 a1 g0_1 r1.2 (.ref a2) f1 r2 hcr2) (cwV 0 hts gX1_readWork_X1_sign rfl rfl rfl nd_X1_sign ⟨Nat.le_of_ble_eq_true rfl, Nat.le_of_ble_eq_true rfl⟩) (PB.preV (ci := 1) (q0 := 0) hKU hP hD [0, 1] rfl rfl rfl rfl) rfl rfl hl.1 rfl (lv_room (Nat.le_of_ble_eq_true rfl)) dX1_readWork_9 ⟨Nat.zero_le _, Nat.zero_le _⟩) hS hP hD hA [0, 1] rfl rfl (by first | (simp only [wset, List.set_cons_zero, List.set_cons_succ]; done) | rfl) rfl (fun H locs hP hD hS => ?_)
  refine lv_istore_n (lv' := [(2, .int r2), (1, .int r1.1), (0, .ref a0)]) hx hb dX1_readWork_12 rfl hl (by decide) rfl (fun ls hl => ?_)
  refine lv_iload_n hx hb dX1_readWork_13 rfl (lv_at hl 0 rfl) ?_
  refine lv_bipush (v := 43) hx hb dX1_readWork_14 (by decide) ?_
  refine lv_icmp_eq (tgt := 31) hx hb dX1_readWork_16 (by decide) (fun c3 => ?_) (fun c3 => ?_)
  · have hsp := itT hsp c3
    refine lv_iconst (v := 1) hx hb dX1_readWork_31 (by decide) ?_
    refine lv_goto (tgt := 36) hx hb dX1_readWork_32 (by decide) ?_
    refine lv_istore_n (lv' := [(3, .int 1), (2, .int r2), (1, .int r1.1), (0, .ref a0)]) hx hb dX1_readWork_36 rfl hl (by decide) rfl (fun ls hl => ?_)
    refine lv_iload_n hx hb dX1_readWork_37 rfl (lv_at hl 1 rfl) ?_
    refine lv_bipush (v := 100) hx hb dX1_readWork_38 (by decide) ?_
    refine lv_icmp_eq (tgt := 55) hx hb dX1_readWork_40 (by decide) (fun c4 => ?_) (fun c4 => ?_)
    · have hsp := itT hsp c4
      refine lv_iconst (v := 1) hx hb dX1_readWork_55 (by decide) ?_
      refine lv_goto (tgt := 60) hx hb dX1_readWork_56 (by decide) ?_
      refine lv_istore (lv' := [(4, .int 1), (3, .int 1), (2, .int r2), (1, .int r1.1), (0, .ref a0)]) hx hb dX1_readWork_60 hl (by decide) rfl (fun ls hl => ?_)
      refine lv_iload_n hx hb dX1_readWork_62 rfl (lv_at hl 3 rfl) ?_
      refine lv_if_lt (tgt := 73) hx hb dX1_readWork_63 (by decide) (fun c5 => ?_) (fun c5 => ?_)
      · have hsp := itT hsp c5
        refine lv_iload hx hb dX1_readWork_73 (lv_at hl 0 rfl) ?_
        refine lv_if_ne (tgt := 80) hx hb dX1_readWork_75 (by decide) (fun _ => ?_) (fun hc => absurd hc (by decide))
        refine lv_aload_n hx hb dX1_readWork_80 rfl (lv_at hl 4 rfl) ?_
        refine lv_dup hx hb dX1_readWork_81 rfl ?_
        refine va_get (D := D) (ci := 1) (v := .int r1.2) (C := RX1) (T := TX1) (N := 4) hx hb hts hi_X1 hown hK hP 0 rfl rfl 2 (by decide) hf_19 (fun _ h9 => h9) rfl dX1_readWork_82 ?_
        refine lv_iconst (v := 1) hx hb dX1_readWork_85 (by decide) ?_
        refine lv_iadd hx hb dX1_readWork_86 ?_
        obtain ⟨x6, ex6, hsp⟩ := nmE hsp
        refine r_top ex6 ?_
        refine va_put (D := D) (ci := 1) (v := .int x6) (ty := .int) (C := RX1) (T := TX1) (N := 4) hx hb hts hi_X1 tyX1 tyX1_ok nmX1 hown hK hP hD hS 0 rfl rfl 2 (by decide) hf_19 (fun _ h9 => h9) rfl (by decide +kernel) rfl rfl (Nat.le_of_ble_eq_true rfl) dX1_readWork_87 (fun H locs hP hD hS => ?_)
        have hP : va_P D vwCl [(a0, .inr (1, [.ref a1, .int g0_1, .int x6, .ref a2])), (a1, .inl (cI, 60, .inl f1)), (a2, .inr (3, [.int g2_0, .int g2_1, .int g2_2, .int g2_3, .ref a3])), (a3, .inl (cI, 4, .inl f3))] H := hP
        have hD : va_D A [(a0, .inr (1, [.ref a1, .int g0_1, .int x6, .ref a2])), (a1, .inl (cI, 60, .inl f1)), (a2, .inr (3, [.int g2_0, .int g2_1, .int g2_2, .int g2_3, .ref a3])), (a3, .inl (cI, 4, .inl f3))] := hD
        refine lv_aload_n hx hb dX1_readWork_90 rfl (lv_at hl 4 rfl) ?_
        refine va_get (D := D) (ci := 1) (v := .ref a2) (C := RX1) (T := TX1) (N := 4) hx hb hts hi_X1 hown hK hP 0 rfl rfl 3 (by decide) hf_25 (fun _ h9 => h9) rfl dX1_readWork_91 ?_
        refine lv_iload_n hx hb dX1_readWork_94 rfl (lv_at hl 2 rfl) ?_
        refine lv_iload_n hx hb dX1_readWork_95 rfl (lv_at hl 3 rfl) ?_
        obtain ⟨r7, hcr7, hsp⟩ := clE hsp
        refine call_v (w1 := [(a2, .inr (3, [.int r7.1, .int r7.2.1, .int r7.2.2.1, .int r7.2.2.2.1, .ref a3])), (a3, .inl (cI, 4, .inl r7.2.2.2.2))]) (ws' := [(a0, .inr (1, [.ref a1, .int g0_1, .int x6, .ref a2])), (a1, .inl (cI, 60, .inl f1)), (a2, .inr (3, [.int r7.1, .int r7.2.1, .int r7.2.2.1, .int r7.2.2.2.1, .ref a3])), (a3, .inl (cI, 4, .inl r7.2.2.2.2))]) (va_runV (As := [.int r2, .int r1.1]) (rest := []) ⟨hx, hb, hml, hown, hts⟩ (k_X3_begin l D cI cZ cC cS H.size a2 a3 g2_0 g2_1 g2_2 g2_3 f3 r2 r1.1 r7 hcr7) (cwV 2 hts gX1_readWork_X3_begin rfl rfl rfl nd_X3_begin ⟨Nat.le_of_ble_eq_true rfl, Nat.le_of_ble_eq_true rfl⟩) (PB.preV (ci := 3) (q0 := 2) hKU hP hD [2, 3] rfl rfl rfl rfl) rfl rfl hl.1 rfl (lv_room (Nat.le_of_ble_eq_true rfl)) dX1_readWork_96 ⟨Nat.zero_le _, Nat.zero_le _⟩) hS hP hD hA [2, 3] rfl rfl (by first | (simp only [wset, List.set_cons_zero, List.set_cons_succ]; done) | rfl) rfl (fun H locs hP hD hS => ?_)
        refine lv_iload_n hx hb dX1_readWork_99 rfl (lv_at hl 2 rfl) ?_
        by_cases c8 : r2 = 43
        · have hsp := itT hsp c8
          refine lv_lookup (off := 44) (tgt := 144) hx hb dX1_readWork_100 (by decide) (by rw [c8]; decide) (by decide) ?_
          refine lv_aload_n hx hb dX1_readWork_144 rfl (lv_at hl 4 rfl) ?_
          obtain ⟨r9, hcr9, hsp⟩ := clE hsp
          refine call_z (w1 := [(a0, .inr (1, [.ref a1, .int g0_1, .int r9.2.1, .ref a2])), (a1, .inl (cI, 60, .inl f1)), (a2, .inr (3, [.int r7.1, .int r7.2.1, .int r7.2.2.1, .int r7.2.2.2.1, .ref a3])), (a3, .inl (cI, 4, .inl r9.2.2))]) (ws' := [(a0, .inr (1, [.ref a1, .int g0_1, .int r9.2.1, .ref a2])), (a1, .inl (cI, 60, .inl f1)), (a2, .inr (3, [.int r7.1, .int r7.2.1, .int r7.2.2.1, .int r7.2.2.2.1, .ref a3])), (a3, .inl (cI, 4, .inl r9.2.2))]) (va_runV (As := []) (rest := []) ⟨hx, hb, hml, hown, hts⟩ (k_X1_readKinds l D cI cZ cC cS H.size a0 a1 a2 a3 g0_1 x6 f1 (.int r7.1) (.int r7.2.1) (.int r7.2.2.1) (.int r7.2.2.2.1) r7.2.2.2.2 r9 hcr9) (cwV 0 hts gX1_readWork_X1_readKinds rfl rfl rfl nd_X1_readKinds ⟨Nat.le_of_ble_eq_true rfl, Nat.le_of_ble_eq_true rfl⟩) (PB.preV (ci := 1) (q0 := 0) hKU hP hD [0, 1, 2, 3] rfl rfl rfl rfl) rfl rfl hl.1 rfl (lv_room (Nat.le_of_ble_eq_true rfl)) dX1_readWork_145 ⟨Nat.zero_le _, Nat.zero_le _⟩) hS hP hD hA [0, 1, 2, 3] rfl rfl (by first | (simp only [wset, List.set_cons_zero, List.set_cons_succ]; done) | rfl) rfl (fun H locs hP hD hS hzr9 => ?_)
          have hres := Option.some.inj hsp
          subst hres
          exact W.zret (v := r9.1) hx hb hr (zE hzr9) (fun t ht hW => ⟨⟨r9.1, (), rfl, ⟨rfl, hzr9⟩, P_at ht hP⟩, hS.F ht⟩) hS.2.2 dX1_readWork_148
        have hsp := itF hsp c8
        by_cases c10 : r2 = 62
        · have hsp := itT hsp c10
          refine lv_lookup (off := 49) (tgt := 149) hx hb dX1_readWork_100 (by decide) (by rw [c10]; decide) (by decide) ?_
          refine lv_aload_n hx hb dX1_readWork_149 rfl (lv_at hl 4 rfl) ?_
          obtain ⟨r11, hcr11, hsp⟩ := clE hsp
          refine call_z (w1 := [(a0, .inr (1, [.ref a1, .int g0_1, .int r11.2.1, .ref a2])), (a1, .inl (cI, 60, .inl f1)), (a2, .inr (3, [.int r7.1, .int r7.2.1, .int r11.2.2, .int r7.2.2.2.1, .ref a3]))]) (ws' := [(a0, .inr (1, [.ref a1, .int g0_1, .int r11.2.1, .ref a2])), (a1, .inl (cI, 60, .inl f1)), (a2, .inr (3, [.int r7.1, .int r7.2.1, .int r11.2.2, .int r7.2.2.2.1, .ref a3])), (a3, .inl (cI, 4, .inl r7.2.2.2.2))]) (va_runV (As := []) (rest := []) ⟨hx, hb, hml, hown, hts⟩ (k_X1_readOther l D cI cZ cC cS H.size a0 a1 a2 g0_1 x6 f1 (.int r7.1) (.int r7.2.1) r7.2.2.1 (.int r7.2.2.2.1) (.ref a3) r11 hcr11) (cwV 0 hts gX1_readWork_X1_readOther rfl rfl rfl nd_X1_readOther ⟨Nat.le_of_ble_eq_true rfl, Nat.le_of_ble_eq_true rfl⟩) (PB.preV (ci := 1) (q0 := 0) hKU hP hD [0, 1, 2] rfl rfl rfl rfl) rfl rfl hl.1 rfl (lv_room (Nat.le_of_ble_eq_true rfl)) dX1_readWork_150 ⟨Nat.zero_le _, Nat.zero_le _⟩) hS hP hD hA [0, 1, 2] rfl rfl (by first | (simp only [wset, List.set_cons_zero, List.set_cons_succ]; done) | rfl) rfl (fun H locs hP hD hS hzr11 => ?_)
          refine lv_if_eq (tgt := 180) hx hb dX1_readWork_153 (by decide) (fun c12 => ?_) (fun c12 => ?_)
          · have hsp := itT hsp c12
            refine lv_iconst (v := 0) hx hb dX1_readWork_180 (by decide) ?_
            have hres := Option.some.inj hsp
            subst hres
            exact W.zret (v := 0) hx hb hr (zE (Or.inl rfl)) (fun t ht hW => ⟨⟨0, (), rfl, ⟨rfl, (Or.inl rfl)⟩, P_at ht hP⟩, hS.F ht⟩) hS.2.2 dX1_readWork_181
          have hsp := itF hsp c12
          refine lv_aload_n hx hb dX1_readWork_156 rfl (lv_at hl 4 rfl) ?_
          refine lv_bipush (v := 58) hx hb dX1_readWork_157 (by decide) ?_
          obtain ⟨r13, hcr13, hsp⟩ := clE hsp
          refine call_z (w1 := [(a0, .inr (1, [.ref a1, .int g0_1, .int r13.2, .ref a2])), (a1, .inl (cI, 60, .inl f1))]) (ws' := [(a0, .inr (1, [.ref a1, .int g0_1, .int r13.2, .ref a2])), (a1, .inl (cI, 60, .inl f1)), (a2, .inr (3, [.int r7.1, .int r7.2.1, .int r11.2.2, .int r7.2.2.2.1, .ref a3])), (a3, .inl (cI, 4, .inl r7.2.2.2.2))]) (va_runV (As := [.int 58]) (rest := []) ⟨hx, hb, hml, hown, hts⟩ (k_X1_readSign l D cI cZ cC cS H.size a0 a1 g0_1 r11.2.1 (.ref a2) f1 58 r13 hcr13) (cwV 1 hts gX1_readWork_X1_readSign rfl rfl rfl nd_X1_readSign ⟨Nat.le_of_ble_eq_true rfl, Nat.le_of_ble_eq_true rfl⟩) (PB.preV (ci := 1) (q0 := 0) hKU hP hD [0, 1] rfl rfl rfl rfl) rfl rfl hl.1 rfl (lv_room (Nat.le_of_ble_eq_true rfl)) dX1_readWork_159 ⟨Nat.zero_le _, Nat.zero_le _⟩) hS hP hD hA [0, 1] rfl rfl (by first | (simp only [wset, List.set_cons_zero, List.set_cons_succ]; done) | rfl) rfl (fun H locs hP hD hS hzr13 => ?_)
          refine lv_if_eq (tgt := 180) hx hb dX1_readWork_162 (by decide) (fun c14 => ?_) (fun c14 => ?_)
          · have hsp := itT hsp c14
            refine lv_iconst (v := 0) hx hb dX1_readWork_180 (by decide) ?_
            have hres := Option.some.inj hsp
            subst hres
            exact W.zret (v := 0) hx hb hr (zE (Or.inl rfl)) (fun t ht hW => ⟨⟨0, (), rfl, ⟨rfl, (Or.inl rfl)⟩, P_at ht hP⟩, hS.F ht⟩) hS.2.2 dX1_readWork_181
          have hsp := itF hsp c14
          refine lv_aload_n hx hb dX1_readWork_165 rfl (lv_at hl 4 rfl) ?_
          refine lv_aload_n hx hb dX1_readWork_166 rfl (lv_at hl 4 rfl) ?_
          obtain ⟨r15, hcr15, hsp⟩ := clE hsp
          refine call_i (w1 := [(a0, .inr (1, [.ref a1, .int g0_1, .int r15.2, .ref a2])), (a1, .inl (cI, 60, .inl f1))]) (ws' := [(a0, .inr (1, [.ref a1, .int g0_1, .int r15.2, .ref a2])), (a1, .inl (cI, 60, .inl f1)), (a2, .inr (3, [.int r7.1, .int r7.2.1, .int r11.2.2, .int r7.2.2.2.1, .ref a3])), (a3, .inl (cI, 4, .inl r7.2.2.2.2))]) (va_runV (As := []) (rest := [.ref a0]) ⟨hx, hb, hml, hown, hts⟩ (k_X1_readNumber l D cI cZ cC cS H.size a0 a1 g0_1 r13.2 (.ref a2) f1 r15 hcr15) (cwV 0 hts gX1_readWork_X1_readNumber rfl rfl rfl nd_X1_readNumber ⟨Nat.le_of_ble_eq_true rfl, Nat.le_of_ble_eq_true rfl⟩) (PB.preV (ci := 1) (q0 := 0) hKU hP hD [0, 1] rfl rfl rfl rfl) rfl rfl hl.1 rfl (lv_room (Nat.le_of_ble_eq_true rfl)) dX1_readWork_167 ⟨Nat.zero_le _, Nat.zero_le _⟩) hS hP hD hA [0, 1] rfl rfl (by first | (simp only [wset, List.set_cons_zero, List.set_cons_succ]; done) | rfl) rfl (fun H locs hP hD hS => ?_)
          obtain ⟨r16, hcr16, hsp⟩ := clE hsp
          refine call_z (w1 := [(a0, .inr (1, [.ref a1, .int g0_1, .int r15.2, .ref a2])), (a2, .inr (3, [.int r7.1, .int r7.2.1, .int r11.2.2, .int r16.2, .ref a3]))]) (ws' := [(a0, .inr (1, [.ref a1, .int g0_1, .int r15.2, .ref a2])), (a1, .inl (cI, 60, .inl f1)), (a2, .inr (3, [.int r7.1, .int r7.2.1, .int r11.2.2, .int r16.2, .ref a3])), (a3, .inl (cI, 4, .inl r7.2.2.2.2))]) (va_runV (As := [.int r15.1]) (rest := []) ⟨hx, hb, hml, hown, hts⟩ (k_X1_readDrops l D cI cZ cC cS H.size a0 a2 (.ref a1) (.int g0_1) (.int r15.2) (.int r7.1) (.int r7.2.1) (.int r11.2.2) r7.2.2.2.1 (.ref a3) r15.1 r16 hcr16) (cwV 1 hts gX1_readWork_X1_readDrops rfl rfl rfl nd_X1_readDrops ⟨Nat.le_of_ble_eq_true rfl, Nat.le_of_ble_eq_true rfl⟩) (PB.preV (ci := 1) (q0 := 0) hKU hP hD [0, 2] rfl rfl rfl rfl) rfl rfl hl.1 rfl (lv_room (Nat.le_of_ble_eq_true rfl)) dX1_readWork_170 ⟨Nat.zero_le _, Nat.zero_le _⟩) hS hP hD hA [0, 2] rfl rfl (by first | (simp only [wset, List.set_cons_zero, List.set_cons_succ]; done) | rfl) rfl (fun H locs hP hD hS hzr16 => ?_)
          refine lv_if_eq (tgt := 180) hx hb dX1_readWork_173 (by decide) (fun c17 => ?_) (fun c17 => ?_)
          · have hsp := itT hsp c17
            refine lv_iconst (v := 0) hx hb dX1_readWork_180 (by decide) ?_
            have hres := Option.some.inj hsp
            subst hres
            exact W.zret (v := 0) hx hb hr (zE (Or.inl rfl)) (fun t ht hW => ⟨⟨0, (), rfl, ⟨rfl, (Or.inl rfl)⟩, P_at ht hP⟩, hS.F ht⟩) hS.2.2 dX1_readWork_181
          have hsp := itF hsp c17
          refine lv_iconst (v := 1) hx hb dX1_readWork_176 (by decide) ?_
          refine lv_goto (tgt := 181) hx hb dX1_readWork_177 (by decide) ?_
          have hres := Option.some.inj hsp
          subst hres
          exact W.zret (v := 1) hx hb hr (zE (Or.inr rfl)) (fun t ht hW => ⟨⟨1, (), rfl, ⟨rfl, (Or.inr rfl)⟩, P_at ht hP⟩, hS.F ht⟩) hS.2.2 dX1_readWork_181
        have hsp := itF hsp c10
        by_cases c18 : r2 = 100
        · have hsp := itT hsp c18
          refine lv_lookup (off := 82) (tgt := 182) hx hb dX1_readWork_100 (by decide) (by rw [c18]; decide) (by decide) ?_
          refine lv_aload_n hx hb dX1_readWork_182 rfl (lv_at hl 4 rfl) ?_
          refine lv_bipush (v := 8) hx hb dX1_readWork_183 (by decide) ?_
          obtain ⟨r19, hcr19, hsp⟩ := clE hsp
          refine call_z (w1 := [(a0, .inr (1, [.ref a1, .int g0_1, .int r19.2.1, .ref a2])), (a1, .inl (cI, 60, .inl f1)), (a2, .inr (3, [.int r7.1, .int r19.2.2, .int r7.2.2.1, .int r7.2.2.2.1, .ref a3]))]) (ws' := [(a0, .inr (1, [.ref a1, .int g0_1, .int r19.2.1, .ref a2])), (a1, .inl (cI, 60, .inl f1)), (a2, .inr (3, [.int r7.1, .int r19.2.2, .int r7.2.2.1, .int r7.2.2.2.1, .ref a3])), (a3, .inl (cI, 4, .inl r7.2.2.2.2))]) (va_runV (As := [.int 8]) (rest := []) ⟨hx, hb, hml, hown, hts⟩ (k_X1_readTarget l D cI cZ cC cS H.size a0 a1 a2 g0_1 x6 f1 (.int r7.1) r7.2.1 (.int r7.2.2.1) (.int r7.2.2.2.1) (.ref a3) 8 r19 hcr19) (cwV 1 hts gX1_readWork_X1_readTarget rfl rfl rfl nd_X1_readTarget ⟨Nat.le_of_ble_eq_true rfl, Nat.le_of_ble_eq_true rfl⟩) (PB.preV (ci := 1) (q0 := 0) hKU hP hD [0, 1, 2] rfl rfl rfl rfl) rfl rfl hl.1 rfl (lv_room (Nat.le_of_ble_eq_true rfl)) dX1_readWork_185 ⟨Nat.zero_le _, Nat.zero_le _⟩) hS hP hD hA [0, 1, 2] rfl rfl (by first | (simp only [wset, List.set_cons_zero, List.set_cons_succ]; done) | rfl) rfl (fun H locs hP hD hS hzr19 => ?_)
          refine lv_if_eq (tgt := 218) hx hb dX1_readWork_188 (by decide) (fun c20 => ?_) (fun c20 => ?_)
          · have hsp := itT hsp c20
            refine lv_iconst (v := 0) hx hb dX1_readWork_218 (by decide) ?_
            have hres := Option.some.inj hsp
            subst hres
            exact W.zret (v := 0) hx hb hr (zE (Or.inl rfl)) (fun t ht hW => ⟨⟨0, (), rfl, ⟨rfl, (Or.inl rfl)⟩, P_at ht hP⟩, hS.F ht⟩) hS.2.2 dX1_readWork_219
          have hsp := itF hsp c20
          refine lv_aload_n hx hb dX1_readWork_191 rfl (lv_at hl 4 rfl) ?_
          refine lv_bipush (v := 58) hx hb dX1_readWork_192 (by decide) ?_
          obtain ⟨r21, hcr21, hsp⟩ := clE hsp
          refine call_z (w1 := [(a0, .inr (1, [.ref a1, .int g0_1, .int r21.2, .ref a2])), (a1, .inl (cI, 60, .inl f1))]) (ws' := [(a0, .inr (1, [.ref a1, .int g0_1, .int r21.2, .ref a2])), (a1, .inl (cI, 60, .inl f1)), (a2, .inr (3, [.int r7.1, .int r19.2.2, .int r7.2.2.1, .int r7.2.2.2.1, .ref a3])), (a3, .inl (cI, 4, .inl r7.2.2.2.2))]) (va_runV (As := [.int 58]) (rest := []) ⟨hx, hb, hml, hown, hts⟩ (k_X1_readSign l D cI cZ cC cS H.size a0 a1 g0_1 r19.2.1 (.ref a2) f1 58 r21 hcr21) (cwV 1 hts gX1_readWork_X1_readSign rfl rfl rfl nd_X1_readSign ⟨Nat.le_of_ble_eq_true rfl, Nat.le_of_ble_eq_true rfl⟩) (PB.preV (ci := 1) (q0 := 0) hKU hP hD [0, 1] rfl rfl rfl rfl) rfl rfl hl.1 rfl (lv_room (Nat.le_of_ble_eq_true rfl)) dX1_readWork_194 ⟨Nat.zero_le _, Nat.zero_le _⟩) hS hP hD hA [0, 1] rfl rfl (by first | (simp only [wset, List.set_cons_zero, List.set_cons_succ]; done) | rfl) rfl (fun H locs hP hD hS hzr21 => ?_)
          refine lv_if_eq (tgt := 218) hx hb dX1_readWork_197 (by decide) (fun c22 => ?_) (fun c22 => ?_)
          · have hsp := itT hsp c22
            refine lv_iconst (v := 0) hx hb dX1_readWork_218 (by decide) ?_
            have hres := Option.some.inj hsp
            subst hres
            exact W.zret (v := 0) hx hb hr (zE (Or.inl rfl)) (fun t ht hW => ⟨⟨0, (), rfl, ⟨rfl, (Or.inl rfl)⟩, P_at ht hP⟩, hS.F ht⟩) hS.2.2 dX1_readWork_219
          have hsp := itF hsp c22
          refine lv_aload_n hx hb dX1_readWork_200 rfl (lv_at hl 4 rfl) ?_
          refine lv_aload_n hx hb dX1_readWork_201 rfl (lv_at hl 4 rfl) ?_
          refine lv_iconst (v := 1) hx hb dX1_readWork_202 (by decide) ?_
          refine lv_bipush (v := 9) hx hb dX1_readWork_203 (by decide) ?_
          obtain ⟨r23, hcr23, hsp⟩ := clE hsp
          refine call_i (w1 := [(a0, .inr (1, [.ref a1, .int g0_1, .int r23.2, .ref a2])), (a1, .inl (cI, 60, .inl f1))]) (ws' := [(a0, .inr (1, [.ref a1, .int g0_1, .int r23.2, .ref a2])), (a1, .inl (cI, 60, .inl f1)), (a2, .inr (3, [.int r7.1, .int r19.2.2, .int r7.2.2.1, .int r7.2.2.2.1, .ref a3])), (a3, .inl (cI, 4, .inl r7.2.2.2.2))]) (va_runV (As := [.int 1, .int 9]) (rest := [.ref a0]) ⟨hx, hb, hml, hown, hts⟩ (k_X1_readDigit l D cI cZ cC cS H.size a0 a1 g0_1 r21.2 (.ref a2) f1 1 9 r23 hcr23) (cwV 2 hts gX1_readWork_X1_readDigit rfl rfl rfl nd_X1_readDigit ⟨Nat.le_of_ble_eq_true rfl, Nat.le_of_ble_eq_true rfl⟩) (PB.preV (ci := 1) (q0 := 0) hKU hP hD [0, 1] rfl rfl rfl rfl) rfl rfl hl.1 rfl (lv_room (Nat.le_of_ble_eq_true rfl)) dX1_readWork_205 ⟨Nat.zero_le _, Nat.zero_le _⟩) hS hP hD hA [0, 1] rfl rfl (by first | (simp only [wset, List.set_cons_zero, List.set_cons_succ]; done) | rfl) rfl (fun H locs hP hD hS => ?_)
          obtain ⟨r24, hcr24, hsp⟩ := clE hsp
          refine call_z (w1 := [(a0, .inr (1, [.ref a1, .int g0_1, .int r23.2, .ref a2])), (a2, .inr (3, [.int r7.1, .int r19.2.2, .int r7.2.2.1, .int r24.2, .ref a3]))]) (ws' := [(a0, .inr (1, [.ref a1, .int g0_1, .int r23.2, .ref a2])), (a1, .inl (cI, 60, .inl f1)), (a2, .inr (3, [.int r7.1, .int r19.2.2, .int r7.2.2.1, .int r24.2, .ref a3])), (a3, .inl (cI, 4, .inl r7.2.2.2.2))]) (va_runV (As := [.int r23.1]) (rest := []) ⟨hx, hb, hml, hown, hts⟩ (k_X1_readDrops l D cI cZ cC cS H.size a0 a2 (.ref a1) (.int g0_1) (.int r23.2) (.int r7.1) (.int r19.2.2) (.int r7.2.2.1) r7.2.2.2.1 (.ref a3) r23.1 r24 hcr24) (cwV 1 hts gX1_readWork_X1_readDrops rfl rfl rfl nd_X1_readDrops ⟨Nat.le_of_ble_eq_true rfl, Nat.le_of_ble_eq_true rfl⟩) (PB.preV (ci := 1) (q0 := 0) hKU hP hD [0, 2] rfl rfl rfl rfl) rfl rfl hl.1 rfl (lv_room (Nat.le_of_ble_eq_true rfl)) dX1_readWork_208 ⟨Nat.zero_le _, Nat.zero_le _⟩) hS hP hD hA [0, 2] rfl rfl (by first | (simp only [wset, List.set_cons_zero, List.set_cons_succ]; done) | rfl) rfl (fun H locs hP hD hS hzr24 => ?_)
          refine lv_if_eq (tgt := 218) hx hb dX1_readWork_211 (by decide) (fun c25 => ?_) (fun c25 => ?_)
          · have hsp := itT hsp c25
            refine lv_iconst (v := 0) hx hb dX1_readWork_218 (by decide) ?_
            have hres := Option.some.inj hsp
            subst hres
            exact W.zret (v := 0) hx hb hr (zE (Or.inl rfl)) (fun t ht hW => ⟨⟨0, (), rfl, ⟨rfl, (Or.inl rfl)⟩, P_at ht hP⟩, hS.F ht⟩) hS.2.2 dX1_readWork_219
          have hsp := itF hsp c25
          refine lv_iconst (v := 1) hx hb dX1_readWork_214 (by decide) ?_
          refine lv_goto (tgt := 219) hx hb dX1_readWork_215 (by decide) ?_
          have hres := Option.some.inj hsp
          subst hres
          exact W.zret (v := 1) hx hb hr (zE (Or.inr rfl)) (fun t ht hW => ⟨⟨1, (), rfl, ⟨rfl, (Or.inr rfl)⟩, P_at ht hP⟩, hS.F ht⟩) hS.2.2 dX1_readWork_219
        have hsp := itF hsp c18
        by_cases c26 : r2 = 112
        · have hsp := itT hsp c26
          refine lv_lookup (off := 120) (tgt := 220) hx hb dX1_readWork_100 (by decide) (by rw [c26]; decide) (by decide) ?_
          refine lv_aload_n hx hb dX1_readWork_220 rfl (lv_at hl 4 rfl) ?_
          refine lv_bipush (v := 6) hx hb dX1_readWork_221 (by decide) ?_
          obtain ⟨r27, hcr27, hsp⟩ := clE hsp
          refine call_z (w1 := [(a0, .inr (1, [.ref a1, .int g0_1, .int r27.2.1, .ref a2])), (a1, .inl (cI, 60, .inl f1)), (a2, .inr (3, [.int r7.1, .int r27.2.2, .int r7.2.2.1, .int r7.2.2.2.1, .ref a3]))]) (ws' := [(a0, .inr (1, [.ref a1, .int g0_1, .int r27.2.1, .ref a2])), (a1, .inl (cI, 60, .inl f1)), (a2, .inr (3, [.int r7.1, .int r27.2.2, .int r7.2.2.1, .int r7.2.2.2.1, .ref a3])), (a3, .inl (cI, 4, .inl r7.2.2.2.2))]) (va_runV (As := [.int 6]) (rest := []) ⟨hx, hb, hml, hown, hts⟩ (k_X1_readTarget l D cI cZ cC cS H.size a0 a1 a2 g0_1 x6 f1 (.int r7.1) r7.2.1 (.int r7.2.2.1) (.int r7.2.2.2.1) (.ref a3) 6 r27 hcr27) (cwV 1 hts gX1_readWork_X1_readTarget rfl rfl rfl nd_X1_readTarget ⟨Nat.le_of_ble_eq_true rfl, Nat.le_of_ble_eq_true rfl⟩) (PB.preV (ci := 1) (q0 := 0) hKU hP hD [0, 1, 2] rfl rfl rfl rfl) rfl rfl hl.1 rfl (lv_room (Nat.le_of_ble_eq_true rfl)) dX1_readWork_223 ⟨Nat.zero_le _, Nat.zero_le _⟩) hS hP hD hA [0, 1, 2] rfl rfl (by first | (simp only [wset, List.set_cons_zero, List.set_cons_succ]; done) | rfl) rfl (fun H locs hP hD hS hzr27 => ?_)
          have hres := Option.some.inj hsp
          subst hres
          exact W.zret (v := r27.1) hx hb hr (zE hzr27) (fun t ht hW => ⟨⟨r27.1, (), rfl, ⟨rfl, hzr27⟩, P_at ht hP⟩, hS.F ht⟩) hS.2.2 dX1_readWork_226
        have hsp := itF hsp c26
        refine lv_lookup (off := 127) (tgt := 227) hx hb dX1_readWork_100 (by decide) ((lv_osw c8 (by decide)).trans ((lv_osw c10 (by decide)).trans ((lv_osw c18 (by decide)).trans ((lv_osw c26 (by decide)).trans rfl)))) (by decide) ?_
        refine lv_iconst (v := 1) hx hb dX1_readWork_227 (by decide) ?_
        have hres := Option.some.inj hsp
        subst hres
        exact W.zret (v := 1) hx hb hr (zE (Or.inr rfl)) (fun t ht hW => ⟨⟨1, (), rfl, ⟨rfl, (Or.inr rfl)⟩, P_at ht hP⟩, hS.F ht⟩) hS.2.2 dX1_readWork_228
      have hsp := itF hsp c5
      refine lv_iload_n hx hb dX1_readWork_66 rfl (lv_at hl 1 rfl) ?_
      refine lv_if_ne (tgt := 80) hx hb dX1_readWork_67 (by decide) (fun _ => ?_) (fun hc => absurd hc (by decide))
      refine lv_aload_n hx hb dX1_readWork_80 rfl (lv_at hl 4 rfl) ?_
      refine lv_dup hx hb dX1_readWork_81 rfl ?_
      refine va_get (D := D) (ci := 1) (v := .int r1.2) (C := RX1) (T := TX1) (N := 4) hx hb hts hi_X1 hown hK hP 0 rfl rfl 2 (by decide) hf_19 (fun _ h9 => h9) rfl dX1_readWork_82 ?_
      refine lv_iconst (v := 1) hx hb dX1_readWork_85 (by decide) ?_
      refine lv_iadd hx hb dX1_readWork_86 ?_
      obtain ⟨x28, ex28, hsp⟩ := nmE hsp
      refine r_top ex28 ?_
      refine va_put (D := D) (ci := 1) (v := .int x28) (ty := .int) (C := RX1) (T := TX1) (N := 4) hx hb hts hi_X1 tyX1 tyX1_ok nmX1 hown hK hP hD hS 0 rfl rfl 2 (by decide) hf_19 (fun _ h9 => h9) rfl (by decide +kernel) rfl rfl (Nat.le_of_ble_eq_true rfl) dX1_readWork_87 (fun H locs hP hD hS => ?_)
      have hP : va_P D vwCl [(a0, .inr (1, [.ref a1, .int g0_1, .int x28, .ref a2])), (a1, .inl (cI, 60, .inl f1)), (a2, .inr (3, [.int g2_0, .int g2_1, .int g2_2, .int g2_3, .ref a3])), (a3, .inl (cI, 4, .inl f3))] H := hP
      have hD : va_D A [(a0, .inr (1, [.ref a1, .int g0_1, .int x28, .ref a2])), (a1, .inl (cI, 60, .inl f1)), (a2, .inr (3, [.int g2_0, .int g2_1, .int g2_2, .int g2_3, .ref a3])), (a3, .inl (cI, 4, .inl f3))] := hD
      refine lv_aload_n hx hb dX1_readWork_90 rfl (lv_at hl 4 rfl) ?_
      refine va_get (D := D) (ci := 1) (v := .ref a2) (C := RX1) (T := TX1) (N := 4) hx hb hts hi_X1 hown hK hP 0 rfl rfl 3 (by decide) hf_25 (fun _ h9 => h9) rfl dX1_readWork_91 ?_
      refine lv_iload_n hx hb dX1_readWork_94 rfl (lv_at hl 2 rfl) ?_
      refine lv_iload_n hx hb dX1_readWork_95 rfl (lv_at hl 3 rfl) ?_
      obtain ⟨r29, hcr29, hsp⟩ := clE hsp
      refine call_v (w1 := [(a2, .inr (3, [.int r29.1, .int r29.2.1, .int r29.2.2.1, .int r29.2.2.2.1, .ref a3])), (a3, .inl (cI, 4, .inl r29.2.2.2.2))]) (ws' := [(a0, .inr (1, [.ref a1, .int g0_1, .int x28, .ref a2])), (a1, .inl (cI, 60, .inl f1)), (a2, .inr (3, [.int r29.1, .int r29.2.1, .int r29.2.2.1, .int r29.2.2.2.1, .ref a3])), (a3, .inl (cI, 4, .inl r29.2.2.2.2))]) (va_runV (As := [.int r2, .int r1.1]) (rest := []) ⟨hx, hb, hml, hown, hts⟩ (k_X3_begin l D cI cZ cC cS H.size a2 a3 g2_0 g2_1 g2_2 g2_3 f3 r2 r1.1 r29 hcr29) (cwV 2 hts gX1_readWork_X3_begin rfl rfl rfl nd_X3_begin ⟨Nat.le_of_ble_eq_true rfl, Nat.le_of_ble_eq_true rfl⟩) (PB.preV (ci := 3) (q0 := 2) hKU hP hD [2, 3] rfl rfl rfl rfl) rfl rfl hl.1 rfl (lv_room (Nat.le_of_ble_eq_true rfl)) dX1_readWork_96 ⟨Nat.zero_le _, Nat.zero_le _⟩) hS hP hD hA [2, 3] rfl rfl (by first | (simp only [wset, List.set_cons_zero, List.set_cons_succ]; done) | rfl) rfl (fun H locs hP hD hS => ?_)
      refine lv_iload_n hx hb dX1_readWork_99 rfl (lv_at hl 2 rfl) ?_
      by_cases c30 : r2 = 43
      · have hsp := itT hsp c30
        refine lv_lookup (off := 44) (tgt := 144) hx hb dX1_readWork_100 (by decide) (by rw [c30]; decide) (by decide) ?_
        refine lv_aload_n hx hb dX1_readWork_144 rfl (lv_at hl 4 rfl) ?_
        obtain ⟨r31, hcr31, hsp⟩ := clE hsp
        refine call_z (w1 := [(a0, .inr (1, [.ref a1, .int g0_1, .int r31.2.1, .ref a2])), (a1, .inl (cI, 60, .inl f1)), (a2, .inr (3, [.int r29.1, .int r29.2.1, .int r29.2.2.1, .int r29.2.2.2.1, .ref a3])), (a3, .inl (cI, 4, .inl r31.2.2))]) (ws' := [(a0, .inr (1, [.ref a1, .int g0_1, .int r31.2.1, .ref a2])), (a1, .inl (cI, 60, .inl f1)), (a2, .inr (3, [.int r29.1, .int r29.2.1, .int r29.2.2.1, .int r29.2.2.2.1, .ref a3])), (a3, .inl (cI, 4, .inl r31.2.2))]) (va_runV (As := []) (rest := []) ⟨hx, hb, hml, hown, hts⟩ (k_X1_readKinds l D cI cZ cC cS H.size a0 a1 a2 a3 g0_1 x28 f1 (.int r29.1) (.int r29.2.1) (.int r29.2.2.1) (.int r29.2.2.2.1) r29.2.2.2.2 r31 hcr31) (cwV 0 hts gX1_readWork_X1_readKinds rfl rfl rfl nd_X1_readKinds ⟨Nat.le_of_ble_eq_true rfl, Nat.le_of_ble_eq_true rfl⟩) (PB.preV (ci := 1) (q0 := 0) hKU hP hD [0, 1, 2, 3] rfl rfl rfl rfl) rfl rfl hl.1 rfl (lv_room (Nat.le_of_ble_eq_true rfl)) dX1_readWork_145 ⟨Nat.zero_le _, Nat.zero_le _⟩) hS hP hD hA [0, 1, 2, 3] rfl rfl (by first | (simp only [wset, List.set_cons_zero, List.set_cons_succ]; done) | rfl) rfl (fun H locs hP hD hS hzr31 => ?_)
        have hres := Option.some.inj hsp
        subst hres
        exact W.zret (v := r31.1) hx hb hr (zE hzr31) (fun t ht hW => ⟨⟨r31.1, (), rfl, ⟨rfl, hzr31⟩, P_at ht hP⟩, hS.F ht⟩) hS.2.2 dX1_readWork_148
      have hsp := itF hsp c30
      by_cases c32 : r2 = 62
      · have hsp := itT hsp c32
        refine lv_lookup (off := 49) (tgt := 149) hx hb dX1_readWork_100 (by decide) (by rw [c32]; decide) (by decide) ?_
        refine lv_aload_n hx hb dX1_readWork_149 rfl (lv_at hl 4 rfl) ?_
        obtain ⟨r33, hcr33, hsp⟩ := clE hsp
        refine call_z (w1 := [(a0, .inr (1, [.ref a1, .int g0_1, .int r33.2.1, .ref a2])), (a1, .inl (cI, 60, .inl f1)), (a2, .inr (3, [.int r29.1, .int r29.2.1, .int r33.2.2, .int r29.2.2.2.1, .ref a3]))]) (ws' := [(a0, .inr (1, [.ref a1, .int g0_1, .int r33.2.1, .ref a2])), (a1, .inl (cI, 60, .inl f1)), (a2, .inr (3, [.int r29.1, .int r29.2.1, .int r33.2.2, .int r29.2.2.2.1, .ref a3])), (a3, .inl (cI, 4, .inl r29.2.2.2.2))]) (va_runV (As := []) (rest := []) ⟨hx, hb, hml, hown, hts⟩ (k_X1_readOther l D cI cZ cC cS H.size a0 a1 a2 g0_1 x28 f1 (.int r29.1) (.int r29.2.1) r29.2.2.1 (.int r29.2.2.2.1) (.ref a3) r33 hcr33) (cwV 0 hts gX1_readWork_X1_readOther rfl rfl rfl nd_X1_readOther ⟨Nat.le_of_ble_eq_true rfl, Nat.le_of_ble_eq_true rfl⟩) (PB.preV (ci := 1) (q0 := 0) hKU hP hD [0, 1, 2] rfl rfl rfl rfl) rfl rfl hl.1 rfl (lv_room (Nat.le_of_ble_eq_true rfl)) dX1_readWork_150 ⟨Nat.zero_le _, Nat.zero_le _⟩) hS hP hD hA [0, 1, 2] rfl rfl (by first | (simp only [wset, List.set_cons_zero, List.set_cons_succ]; done) | rfl) rfl (fun H locs hP hD hS hzr33 => ?_)
        refine lv_if_eq (tgt := 180) hx hb dX1_readWork_153 (by decide) (fun c34 => ?_) (fun c34 => ?_)
        · have hsp := itT hsp c34
          refine lv_iconst (v := 0) hx hb dX1_readWork_180 (by decide) ?_
          have hres := Option.some.inj hsp
          subst hres
          exact W.zret (v := 0) hx hb hr (zE (Or.inl rfl)) (fun t ht hW => ⟨⟨0, (), rfl, ⟨rfl, (Or.inl rfl)⟩, P_at ht hP⟩, hS.F ht⟩) hS.2.2 dX1_readWork_181
        have hsp := itF hsp c34
        refine lv_aload_n hx hb dX1_readWork_156 rfl (lv_at hl 4 rfl) ?_
        refine lv_bipush (v := 58) hx hb dX1_readWork_157 (by decide) ?_
        obtain ⟨r35, hcr35, hsp⟩ := clE hsp
        refine call_z (w1 := [(a0, .inr (1, [.ref a1, .int g0_1, .int r35.2, .ref a2])), (a1, .inl (cI, 60, .inl f1))]) (ws' := [(a0, .inr (1, [.ref a1, .int g0_1, .int r35.2, .ref a2])), (a1, .inl (cI, 60, .inl f1)), (a2, .inr (3, [.int r29.1, .int r29.2.1, .int r33.2.2, .int r29.2.2.2.1, .ref a3])), (a3, .inl (cI, 4, .inl r29.2.2.2.2))]) (va_runV (As := [.int 58]) (rest := []) ⟨hx, hb, hml, hown, hts⟩ (k_X1_readSign l D cI cZ cC cS H.size a0 a1 g0_1 r33.2.1 (.ref a2) f1 58 r35 hcr35) (cwV 1 hts gX1_readWork_X1_readSign rfl rfl rfl nd_X1_readSign ⟨Nat.le_of_ble_eq_true rfl, Nat.le_of_ble_eq_true rfl⟩) (PB.preV (ci := 1) (q0 := 0) hKU hP hD [0, 1] rfl rfl rfl rfl) rfl rfl hl.1 rfl (lv_room (Nat.le_of_ble_eq_true rfl)) dX1_readWork_159 ⟨Nat.zero_le _, Nat.zero_le _⟩) hS hP hD hA [0, 1] rfl rfl (by first | (simp only [wset, List.set_cons_zero, List.set_cons_succ]; done) | rfl) rfl (fun H locs hP hD hS hzr35 => ?_)
        refine lv_if_eq (tgt := 180) hx hb dX1_readWork_162 (by decide) (fun c36 => ?_) (fun c36 => ?_)
        · have hsp := itT hsp c36
          refine lv_iconst (v := 0) hx hb dX1_readWork_180 (by decide) ?_
          have hres := Option.some.inj hsp
          subst hres
          exact W.zret (v := 0) hx hb hr (zE (Or.inl rfl)) (fun t ht hW => ⟨⟨0, (), rfl, ⟨rfl, (Or.inl rfl)⟩, P_at ht hP⟩, hS.F ht⟩) hS.2.2 dX1_readWork_181
        have hsp := itF hsp c36
        refine lv_aload_n hx hb dX1_readWork_165 rfl (lv_at hl 4 rfl) ?_
        refine lv_aload_n hx hb dX1_readWork_166 rfl (lv_at hl 4 rfl) ?_
        obtain ⟨r37, hcr37, hsp⟩ := clE hsp
        refine call_i (w1 := [(a0, .inr (1, [.ref a1, .int g0_1, .int r37.2, .ref a2])), (a1, .inl (cI, 60, .inl f1))]) (ws' := [(a0, .inr (1, [.ref a1, .int g0_1, .int r37.2, .ref a2])), (a1, .inl (cI, 60, .inl f1)), (a2, .inr (3, [.int r29.1, .int r29.2.1, .int r33.2.2, .int r29.2.2.2.1, .ref a3])), (a3, .inl (cI, 4, .inl r29.2.2.2.2))]) (va_runV (As := []) (rest := [.ref a0]) ⟨hx, hb, hml, hown, hts⟩ (k_X1_readNumber l D cI cZ cC cS H.size a0 a1 g0_1 r35.2 (.ref a2) f1 r37 hcr37) (cwV 0 hts gX1_readWork_X1_readNumber rfl rfl rfl nd_X1_readNumber ⟨Nat.le_of_ble_eq_true rfl, Nat.le_of_ble_eq_true rfl⟩) (PB.preV (ci := 1) (q0 := 0) hKU hP hD [0, 1] rfl rfl rfl rfl) rfl rfl hl.1 rfl (lv_room (Nat.le_of_ble_eq_true rfl)) dX1_readWork_167 ⟨Nat.zero_le _, Nat.zero_le _⟩) hS hP hD hA [0, 1] rfl rfl (by first | (simp only [wset, List.set_cons_zero, List.set_cons_succ]; done) | rfl) rfl (fun H locs hP hD hS => ?_)
        obtain ⟨r38, hcr38, hsp⟩ := clE hsp
        refine call_z (w1 := [(a0, .inr (1, [.ref a1, .int g0_1, .int r37.2, .ref a2])), (a2, .inr (3, [.int r29.1, .int r29.2.1, .int r33.2.2, .int r38.2, .ref a3]))]) (ws' := [(a0, .inr (1, [.ref a1, .int g0_1, .int r37.2, .ref a2])), (a1, .inl (cI, 60, .inl f1)), (a2, .inr (3, [.int r29.1, .int r29.2.1, .int r33.2.2, .int r38.2, .ref a3])), (a3, .inl (cI, 4, .inl r29.2.2.2.2))]) (va_runV (As := [.int r37.1]) (rest := []) ⟨hx, hb, hml, hown, hts⟩ (k_X1_readDrops l D cI cZ cC cS H.size a0 a2 (.ref a1) (.int g0_1) (.int r37.2) (.int r29.1) (.int r29.2.1) (.int r33.2.2) r29.2.2.2.1 (.ref a3) r37.1 r38 hcr38) (cwV 1 hts gX1_readWork_X1_readDrops rfl rfl rfl nd_X1_readDrops ⟨Nat.le_of_ble_eq_true rfl, Nat.le_of_ble_eq_true rfl⟩) (PB.preV (ci := 1) (q0 := 0) hKU hP hD [0, 2] rfl rfl rfl rfl) rfl rfl hl.1 rfl (lv_room (Nat.le_of_ble_eq_true rfl)) dX1_readWork_170 ⟨Nat.zero_le _, Nat.zero_le _⟩) hS hP hD hA [0, 2] rfl rfl (by first | (simp only [wset, List.set_cons_zero, List.set_cons_succ]; done) | rfl) rfl (fun H locs hP hD hS hzr38 => ?_)
        refine lv_if_eq (tgt := 180) hx hb dX1_readWork_173 (by decide) (fun c39 => ?_) (fun c39 => ?_)
        · have hsp := itT hsp c39
          refine lv_iconst (v := 0) hx hb dX1_readWork_180 (by decide) ?_
          have hres := Option.some.inj hsp
          subst hres
          exact W.zret (v := 0) hx hb hr (zE (Or.inl rfl)) (fun t ht hW => ⟨⟨0, (), rfl, ⟨rfl, (Or.inl rfl)⟩, P_at ht hP⟩, hS.F ht⟩) hS.2.2 dX1_readWork_181
        have hsp := itF hsp c39
        refine lv_iconst (v := 1) hx hb dX1_readWork_176 (by decide) ?_
        refine lv_goto (tgt := 181) hx hb dX1_readWork_177 (by decide) ?_
        have hres := Option.some.inj hsp
        subst hres
        exact W.zret (v := 1) hx hb hr (zE (Or.inr rfl)) (fun t ht hW => ⟨⟨1, (), rfl, ⟨rfl, (Or.inr rfl)⟩, P_at ht hP⟩, hS.F ht⟩) hS.2.2 dX1_readWork_181
      have hsp := itF hsp c32
      by_cases c40 : r2 = 100
      · have hsp := itT hsp c40
        refine lv_lookup (off := 82) (tgt := 182) hx hb dX1_readWork_100 (by decide) (by rw [c40]; decide) (by decide) ?_
        refine lv_aload_n hx hb dX1_readWork_182 rfl (lv_at hl 4 rfl) ?_
        refine lv_bipush (v := 8) hx hb dX1_readWork_183 (by decide) ?_
        obtain ⟨r41, hcr41, hsp⟩ := clE hsp
        refine call_z (w1 := [(a0, .inr (1, [.ref a1, .int g0_1, .int r41.2.1, .ref a2])), (a1, .inl (cI, 60, .inl f1)), (a2, .inr (3, [.int r29.1, .int r41.2.2, .int r29.2.2.1, .int r29.2.2.2.1, .ref a3]))]) (ws' := [(a0, .inr (1, [.ref a1, .int g0_1, .int r41.2.1, .ref a2])), (a1, .inl (cI, 60, .inl f1)), (a2, .inr (3, [.int r29.1, .int r41.2.2, .int r29.2.2.1, .int r29.2.2.2.1, .ref a3])), (a3, .inl (cI, 4, .inl r29.2.2.2.2))]) (va_runV (As := [.int 8]) (rest := []) ⟨hx, hb, hml, hown, hts⟩ (k_X1_readTarget l D cI cZ cC cS H.size a0 a1 a2 g0_1 x28 f1 (.int r29.1) r29.2.1 (.int r29.2.2.1) (.int r29.2.2.2.1) (.ref a3) 8 r41 hcr41) (cwV 1 hts gX1_readWork_X1_readTarget rfl rfl rfl nd_X1_readTarget ⟨Nat.le_of_ble_eq_true rfl, Nat.le_of_ble_eq_true rfl⟩) (PB.preV (ci := 1) (q0 := 0) hKU hP hD [0, 1, 2] rfl rfl rfl rfl) rfl rfl hl.1 rfl (lv_room (Nat.le_of_ble_eq_true rfl)) dX1_readWork_185 ⟨Nat.zero_le _, Nat.zero_le _⟩) hS hP hD hA [0, 1, 2] rfl rfl (by first | (simp only [wset, List.set_cons_zero, List.set_cons_succ]; done) | rfl) rfl (fun H locs hP hD hS hzr41 => ?_)
        refine lv_if_eq (tgt := 218) hx hb dX1_readWork_188 (by decide) (fun c42 => ?_) (fun c42 => ?_)
        · have hsp := itT hsp c42
          refine lv_iconst (v := 0) hx hb dX1_readWork_218 (by decide) ?_
          have hres := Option.some.inj hsp
          subst hres
          exact W.zret (v := 0) hx hb hr (zE (Or.inl rfl)) (fun t ht hW => ⟨⟨0, (), rfl, ⟨rfl, (Or.inl rfl)⟩, P_at ht hP⟩, hS.F ht⟩) hS.2.2 dX1_readWork_219
        have hsp := itF hsp c42
        refine lv_aload_n hx hb dX1_readWork_191 rfl (lv_at hl 4 rfl) ?_
        refine lv_bipush (v := 58) hx hb dX1_readWork_192 (by decide) ?_
        obtain ⟨r43, hcr43, hsp⟩ := clE hsp
        refine call_z (w1 := [(a0, .inr (1, [.ref a1, .int g0_1, .int r43.2, .ref a2])), (a1, .inl (cI, 60, .inl f1))]) (ws' := [(a0, .inr (1, [.ref a1, .int g0_1, .int r43.2, .ref a2])), (a1, .inl (cI, 60, .inl f1)), (a2, .inr (3, [.int r29.1, .int r41.2.2, .int r29.2.2.1, .int r29.2.2.2.1, .ref a3])), (a3, .inl (cI, 4, .inl r29.2.2.2.2))]) (va_runV (As := [.int 58]) (rest := []) ⟨hx, hb, hml, hown, hts⟩ (k_X1_readSign l D cI cZ cC cS H.size a0 a1 g0_1 r41.2.1 (.ref a2) f1 58 r43 hcr43) (cwV 1 hts gX1_readWork_X1_readSign rfl rfl rfl nd_X1_readSign ⟨Nat.le_of_ble_eq_true rfl, Nat.le_of_ble_eq_true rfl⟩) (PB.preV (ci := 1) (q0 := 0) hKU hP hD [0, 1] rfl rfl rfl rfl) rfl rfl hl.1 rfl (lv_room (Nat.le_of_ble_eq_true rfl)) dX1_readWork_194 ⟨Nat.zero_le _, Nat.zero_le _⟩) hS hP hD hA [0, 1] rfl rfl (by first | (simp only [wset, List.set_cons_zero, List.set_cons_succ]; done) | rfl) rfl (fun H locs hP hD hS hzr43 => ?_)
        refine lv_if_eq (tgt := 218) hx hb dX1_readWork_197 (by decide) (fun c44 => ?_) (fun c44 => ?_)
        · have hsp := itT hsp c44
          refine lv_iconst (v := 0) hx hb dX1_readWork_218 (by decide) ?_
          have hres := Option.some.inj hsp
          subst hres
          exact W.zret (v := 0) hx hb hr (zE (Or.inl rfl)) (fun t ht hW => ⟨⟨0, (), rfl, ⟨rfl, (Or.inl rfl)⟩, P_at ht hP⟩, hS.F ht⟩) hS.2.2 dX1_readWork_219
        have hsp := itF hsp c44
        refine lv_aload_n hx hb dX1_readWork_200 rfl (lv_at hl 4 rfl) ?_
        refine lv_aload_n hx hb dX1_readWork_201 rfl (lv_at hl 4 rfl) ?_
        refine lv_iconst (v := 1) hx hb dX1_readWork_202 (by decide) ?_
        refine lv_bipush (v := 9) hx hb dX1_readWork_203 (by decide) ?_
        obtain ⟨r45, hcr45, hsp⟩ := clE hsp
        refine call_i (w1 := [(a0, .inr (1, [.ref a1, .int g0_1, .int r45.2, .ref a2])), (a1, .inl (cI, 60, .inl f1))]) (ws' := [(a0, .inr (1, [.ref a1, .int g0_1, .int r45.2, .ref a2])), (a1, .inl (cI, 60, .inl f1)), (a2, .inr (3, [.int r29.1, .int r41.2.2, .int r29.2.2.1, .int r29.2.2.2.1, .ref a3])), (a3, .inl (cI, 4, .inl r29.2.2.2.2))]) (va_runV (As := [.int 1, .int 9]) (rest := [.ref a0]) ⟨hx, hb, hml, hown, hts⟩ (k_X1_readDigit l D cI cZ cC cS H.size a0 a1 g0_1 r43.2 (.ref a2) f1 1 9 r45 hcr45) (cwV 2 hts gX1_readWork_X1_readDigit rfl rfl rfl nd_X1_readDigit ⟨Nat.le_of_ble_eq_true rfl, Nat.le_of_ble_eq_true rfl⟩) (PB.preV (ci := 1) (q0 := 0) hKU hP hD [0, 1] rfl rfl rfl rfl) rfl rfl hl.1 rfl (lv_room (Nat.le_of_ble_eq_true rfl)) dX1_readWork_205 ⟨Nat.zero_le _, Nat.zero_le _⟩) hS hP hD hA [0, 1] rfl rfl (by first | (simp only [wset, List.set_cons_zero, List.set_cons_succ]; done) | rfl) rfl (fun H locs hP hD hS => ?_)
        obtain ⟨r46, hcr46, hsp⟩ := clE hsp
        refine call_z (w1 := [(a0, .inr (1, [.ref a1, .int g0_1, .int r45.2, .ref a2])), (a2, .inr (3, [.int r29.1, .int r41.2.2, .int r29.2.2.1, .int r46.2, .ref a3]))]) (ws' := [(a0, .inr (1, [.ref a1, .int g0_1, .int r45.2, .ref a2])), (a1, .inl (cI, 60, .inl f1)), (a2, .inr (3, [.int r29.1, .int r41.2.2, .int r29.2.2.1, .int r46.2, .ref a3])), (a3, .inl (cI, 4, .inl r29.2.2.2.2))]) (va_runV (As := [.int r45.1]) (rest := []) ⟨hx, hb, hml, hown, hts⟩ (k_X1_readDrops l D cI cZ cC cS H.size a0 a2 (.ref a1) (.int g0_1) (.int r45.2) (.int r29.1) (.int r41.2.2) (.int r29.2.2.1) r29.2.2.2.1 (.ref a3) r45.1 r46 hcr46) (cwV 1 hts gX1_readWork_X1_readDrops rfl rfl rfl nd_X1_readDrops ⟨Nat.le_of_ble_eq_true rfl, Nat.le_of_ble_eq_true rfl⟩) (PB.preV (ci := 1) (q0 := 0) hKU hP hD [0, 2] rfl rfl rfl rfl) rfl rfl hl.1 rfl (lv_room (Nat.le_of_ble_eq_true rfl)) dX1_readWork_208 ⟨Nat.zero_le _, Nat.zero_le _⟩) hS hP hD hA [0, 2] rfl rfl (by first | (simp only [wset, List.set_cons_zero, List.set_cons_succ]; done) | rfl) rfl (fun H locs hP hD hS hzr46 => ?_)
        refine lv_if_eq (tgt := 218) hx hb dX1_readWork_211 (by decide) (fun c47 => ?_) (fun c47 => ?_)
        · have hsp := itT hsp c47
          refine lv_iconst (v := 0) hx hb dX1_readWork_218 (by decide) ?_
          have hres := Option.some.inj hsp
          subst hres
          exact W.zret (v := 0) hx hb hr (zE (Or.inl rfl)) (fun t ht hW => ⟨⟨0, (), rfl, ⟨rfl, (Or.inl rfl)⟩, P_at ht hP⟩, hS.F ht⟩) hS.2.2 dX1_readWork_219
        have hsp := itF hsp c47
        refine lv_iconst (v := 1) hx hb dX1_readWork_214 (by decide) ?_
        refine lv_goto (tgt := 219) hx hb dX1_readWork_215 (by decide) ?_
        have hres := Option.some.inj hsp
        subst hres
        exact W.zret (v := 1) hx hb hr (zE (Or.inr rfl)) (fun t ht hW => ⟨⟨1, (), rfl, ⟨rfl, (Or.inr rfl)⟩, P_at ht hP⟩, hS.F ht⟩) hS.2.2 dX1_readWork_219
      have hsp := itF hsp c40
      by_cases c48 : r2 = 112
      · have hsp := itT hsp c48
        refine lv_lookup (off := 120) (tgt := 220) hx hb dX1_readWork_100 (by decide) (by rw [c48]; decide) (by decide) ?_
        refine lv_aload_n hx hb dX1_readWork_220 rfl (lv_at hl 4 rfl) ?_
        refine lv_bipush (v := 6) hx hb dX1_readWork_221 (by decide) ?_
        obtain ⟨r49, hcr49, hsp⟩ := clE hsp
        refine call_z (w1 := [(a0, .inr (1, [.ref a1, .int g0_1, .int r49.2.1, .ref a2])), (a1, .inl (cI, 60, .inl f1)), (a2, .inr (3, [.int r29.1, .int r49.2.2, .int r29.2.2.1, .int r29.2.2.2.1, .ref a3]))]) (ws' := [(a0, .inr (1, [.ref a1, .int g0_1, .int r49.2.1, .ref a2])), (a1, .inl (cI, 60, .inl f1)), (a2, .inr (3, [.int r29.1, .int r49.2.2, .int r29.2.2.1, .int r29.2.2.2.1, .ref a3])), (a3, .inl (cI, 4, .inl r29.2.2.2.2))]) (va_runV (As := [.int 6]) (rest := []) ⟨hx, hb, hml, hown, hts⟩ (k_X1_readTarget l D cI cZ cC cS H.size a0 a1 a2 g0_1 x28 f1 (.int r29.1) r29.2.1 (.int r29.2.2.1) (.int r29.2.2.2.1) (.ref a3) 6 r49 hcr49) (cwV 1 hts gX1_readWork_X1_readTarget rfl rfl rfl nd_X1_readTarget ⟨Nat.le_of_ble_eq_true rfl, Nat.le_of_ble_eq_true rfl⟩) (PB.preV (ci := 1) (q0 := 0) hKU hP hD [0, 1, 2] rfl rfl rfl rfl) rfl rfl hl.1 rfl (lv_room (Nat.le_of_ble_eq_true rfl)) dX1_readWork_223 ⟨Nat.zero_le _, Nat.zero_le _⟩) hS hP hD hA [0, 1, 2] rfl rfl (by first | (simp only [wset, List.set_cons_zero, List.set_cons_succ]; done) | rfl) rfl (fun H locs hP hD hS hzr49 => ?_)
        have hres := Option.some.inj hsp
        subst hres
        exact W.zret (v := r49.1) hx hb hr (zE hzr49) (fun t ht hW => ⟨⟨r49.1, (), rfl, ⟨rfl, hzr49⟩, P_at ht hP⟩, hS.F ht⟩) hS.2.2 dX1_readWork_226
      have hsp := itF hsp c48
      refine lv_lookup (off := 127) (tgt := 227) hx hb dX1_readWork_100 (by decide) ((lv_osw c30 (by decide)).trans ((lv_osw c32 (by decide)).trans ((lv_osw c40 (by decide)).trans ((lv_osw c48 (by decide)).trans rfl)))) (by decide) ?_
      refine lv_iconst (v := 1) hx hb dX1_readWork_227 (by decide) ?_
      have hres := Option.some.inj hsp
      subst hres
      exact W.zret (v := 1) hx hb hr (zE (Or.inr rfl)) (fun t ht hW => ⟨⟨1, (), rfl, ⟨rfl, (Or.inr rfl)⟩, P_at ht hP⟩, hS.F ht⟩) hS.2.2 dX1_readWork_228
    have hsp := itF hsp c4
    refine lv_iload_n hx hb dX1_readWork_43 rfl (lv_at hl 1 rfl) ?_
    refine lv_bipush (v := 112) hx hb dX1_readWork_44 (by decide) ?_
    refine lv_icmp_eq (tgt := 55) hx hb dX1_readWork_46 (by decide) (fun c50 => ?_) (fun c50 => ?_)
    · have hsp := itT hsp c50
      refine lv_iconst (v := 1) hx hb dX1_readWork_55 (by decide) ?_
      refine lv_goto (tgt := 60) hx hb dX1_readWork_56 (by decide) ?_
      refine lv_istore (lv' := [(4, .int 1), (3, .int 1), (2, .int r2), (1, .int r1.1), (0, .ref a0)]) hx hb dX1_readWork_60 hl (by decide) rfl (fun ls hl => ?_)
      refine lv_iload_n hx hb dX1_readWork_62 rfl (lv_at hl 3 rfl) ?_
      refine lv_if_lt (tgt := 73) hx hb dX1_readWork_63 (by decide) (fun c51 => ?_) (fun c51 => ?_)
      · have hsp := itT hsp c51
        refine lv_iload hx hb dX1_readWork_73 (lv_at hl 0 rfl) ?_
        refine lv_if_ne (tgt := 80) hx hb dX1_readWork_75 (by decide) (fun _ => ?_) (fun hc => absurd hc (by decide))
        refine lv_aload_n hx hb dX1_readWork_80 rfl (lv_at hl 4 rfl) ?_
        refine lv_dup hx hb dX1_readWork_81 rfl ?_
        refine va_get (D := D) (ci := 1) (v := .int r1.2) (C := RX1) (T := TX1) (N := 4) hx hb hts hi_X1 hown hK hP 0 rfl rfl 2 (by decide) hf_19 (fun _ h9 => h9) rfl dX1_readWork_82 ?_
        refine lv_iconst (v := 1) hx hb dX1_readWork_85 (by decide) ?_
        refine lv_iadd hx hb dX1_readWork_86 ?_
        obtain ⟨x52, ex52, hsp⟩ := nmE hsp
        refine r_top ex52 ?_
        refine va_put (D := D) (ci := 1) (v := .int x52) (ty := .int) (C := RX1) (T := TX1) (N := 4) hx hb hts hi_X1 tyX1 tyX1_ok nmX1 hown hK hP hD hS 0 rfl rfl 2 (by decide) hf_19 (fun _ h9 => h9) rfl (by decide +kernel) rfl rfl (Nat.le_of_ble_eq_true rfl) dX1_readWork_87 (fun H locs hP hD hS => ?_)
        have hP : va_P D vwCl [(a0, .inr (1, [.ref a1, .int g0_1, .int x52, .ref a2])), (a1, .inl (cI, 60, .inl f1)), (a2, .inr (3, [.int g2_0, .int g2_1, .int g2_2, .int g2_3, .ref a3])), (a3, .inl (cI, 4, .inl f3))] H := hP
        have hD : va_D A [(a0, .inr (1, [.ref a1, .int g0_1, .int x52, .ref a2])), (a1, .inl (cI, 60, .inl f1)), (a2, .inr (3, [.int g2_0, .int g2_1, .int g2_2, .int g2_3, .ref a3])), (a3, .inl (cI, 4, .inl f3))] := hD
        refine lv_aload_n hx hb dX1_readWork_90 rfl (lv_at hl 4 rfl) ?_
        refine va_get (D := D) (ci := 1) (v := .ref a2) (C := RX1) (T := TX1) (N := 4) hx hb hts hi_X1 hown hK hP 0 rfl rfl 3 (by decide) hf_25 (fun _ h9 => h9) rfl dX1_readWork_91 ?_
        refine lv_iload_n hx hb dX1_readWork_94 rfl (lv_at hl 2 rfl) ?_
        refine lv_iload_n hx hb dX1_readWork_95 rfl (lv_at hl 3 rfl) ?_
        obtain ⟨r53, hcr53, hsp⟩ := clE hsp
        refine call_v (w1 := [(a2, .inr (3, [.int r53.1, .int r53.2.1, .int r53.2.2.1, .int r53.2.2.2.1, .ref a3])), (a3, .inl (cI, 4, .inl r53.2.2.2.2))]) (ws' := [(a0, .inr (1, [.ref a1, .int g0_1, .int x52, .ref a2])), (a1, .inl (cI, 60, .inl f1)), (a2, .inr (3, [.int r53.1, .int r53.2.1, .int r53.2.2.1, .int r53.2.2.2.1, .ref a3])), (a3, .inl (cI, 4, .inl r53.2.2.2.2))]) (va_runV (As := [.int r2, .int r1.1]) (rest := []) ⟨hx, hb, hml, hown, hts⟩ (k_X3_begin l D cI cZ cC cS H.size a2 a3 g2_0 g2_1 g2_2 g2_3 f3 r2 r1.1 r53 hcr53) (cwV 2 hts gX1_readWork_X3_begin rfl rfl rfl nd_X3_begin ⟨Nat.le_of_ble_eq_true rfl, Nat.le_of_ble_eq_true rfl⟩) (PB.preV (ci := 3) (q0 := 2) hKU hP hD [2, 3] rfl rfl rfl rfl) rfl rfl hl.1 rfl (lv_room (Nat.le_of_ble_eq_true rfl)) dX1_readWork_96 ⟨Nat.zero_le _, Nat.zero_le _⟩) hS hP hD hA [2, 3] rfl rfl (by first | (simp only [wset, List.set_cons_zero, List.set_cons_succ]; done) | rfl) rfl (fun H locs hP hD hS => ?_)
        refine lv_iload_n hx hb dX1_readWork_99 rfl (lv_at hl 2 rfl) ?_
        by_cases c54 : r2 = 43
        · have hsp := itT hsp c54
          refine lv_lookup (off := 44) (tgt := 144) hx hb dX1_readWork_100 (by decide) (by rw [c54]; decide) (by decide) ?_
          refine lv_aload_n hx hb dX1_readWork_144 rfl (lv_at hl 4 rfl) ?_
          obtain ⟨r55, hcr55, hsp⟩ := clE hsp
          refine call_z (w1 := [(a0, .inr (1, [.ref a1, .int g0_1, .int r55.2.1, .ref a2])), (a1, .inl (cI, 60, .inl f1)), (a2, .inr (3, [.int r53.1, .int r53.2.1, .int r53.2.2.1, .int r53.2.2.2.1, .ref a3])), (a3, .inl (cI, 4, .inl r55.2.2))]) (ws' := [(a0, .inr (1, [.ref a1, .int g0_1, .int r55.2.1, .ref a2])), (a1, .inl (cI, 60, .inl f1)), (a2, .inr (3, [.int r53.1, .int r53.2.1, .int r53.2.2.1, .int r53.2.2.2.1, .ref a3])), (a3, .inl (cI, 4, .inl r55.2.2))]) (va_runV (As := []) (rest := []) ⟨hx, hb, hml, hown, hts⟩ (k_X1_readKinds l D cI cZ cC cS H.size a0 a1 a2 a3 g0_1 x52 f1 (.int r53.1) (.int r53.2.1) (.int r53.2.2.1) (.int r53.2.2.2.1) r53.2.2.2.2 r55 hcr55) (cwV 0 hts gX1_readWork_X1_readKinds rfl rfl rfl nd_X1_readKinds ⟨Nat.le_of_ble_eq_true rfl, Nat.le_of_ble_eq_true rfl⟩) (PB.preV (ci := 1) (q0 := 0) hKU hP hD [0, 1, 2, 3] rfl rfl rfl rfl) rfl rfl hl.1 rfl (lv_room (Nat.le_of_ble_eq_true rfl)) dX1_readWork_145 ⟨Nat.zero_le _, Nat.zero_le _⟩) hS hP hD hA [0, 1, 2, 3] rfl rfl (by first | (simp only [wset, List.set_cons_zero, List.set_cons_succ]; done) | rfl) rfl (fun H locs hP hD hS hzr55 => ?_)
          have hres := Option.some.inj hsp
          subst hres
          exact W.zret (v := r55.1) hx hb hr (zE hzr55) (fun t ht hW => ⟨⟨r55.1, (), rfl, ⟨rfl, hzr55⟩, P_at ht hP⟩, hS.F ht⟩) hS.2.2 dX1_readWork_148
        have hsp := itF hsp c54
        by_cases c56 : r2 = 62
        · have hsp := itT hsp c56
          refine lv_lookup (off := 49) (tgt := 149) hx hb dX1_readWork_100 (by decide) (by rw [c56]; decide) (by decide) ?_
          refine lv_aload_n hx hb dX1_readWork_149 rfl (lv_at hl 4 rfl) ?_
          obtain ⟨r57, hcr57, hsp⟩ := clE hsp
          refine call_z (w1 := [(a0, .inr (1, [.ref a1, .int g0_1, .int r57.2.1, .ref a2])), (a1, .inl (cI, 60, .inl f1)), (a2, .inr (3, [.int r53.1, .int r53.2.1, .int r57.2.2, .int r53.2.2.2.1, .ref a3]))]) (ws' := [(a0, .inr (1, [.ref a1, .int g0_1, .int r57.2.1, .ref a2])), (a1, .inl (cI, 60, .inl f1)), (a2, .inr (3, [.int r53.1, .int r53.2.1, .int r57.2.2, .int r53.2.2.2.1, .ref a3])), (a3, .inl (cI, 4, .inl r53.2.2.2.2))]) (va_runV (As := []) (rest := []) ⟨hx, hb, hml, hown, hts⟩ (k_X1_readOther l D cI cZ cC cS H.size a0 a1 a2 g0_1 x52 f1 (.int r53.1) (.int r53.2.1) r53.2.2.1 (.int r53.2.2.2.1) (.ref a3) r57 hcr57) (cwV 0 hts gX1_readWork_X1_readOther rfl rfl rfl nd_X1_readOther ⟨Nat.le_of_ble_eq_true rfl, Nat.le_of_ble_eq_true rfl⟩) (PB.preV (ci := 1) (q0 := 0) hKU hP hD [0, 1, 2] rfl rfl rfl rfl) rfl rfl hl.1 rfl (lv_room (Nat.le_of_ble_eq_true rfl)) dX1_readWork_150 ⟨Nat.zero_le _, Nat.zero_le _⟩) hS hP hD hA [0, 1, 2] rfl rfl (by first | (simp only [wset, List.set_cons_zero, List.set_cons_succ]; done) | rfl) rfl (fun H locs hP hD hS hzr57 => ?_)
          refine lv_if_eq (tgt := 180) hx hb dX1_readWork_153 (by decide) (fun c58 => ?_) (fun c58 => ?_)
          · have hsp := itT hsp c58
            refine lv_iconst (v := 0) hx hb dX1_readWork_180 (by decide) ?_
            have hres := Option.some.inj hsp
            subst hres
            exact W.zret (v := 0) hx hb hr (zE (Or.inl rfl)) (fun t ht hW => ⟨⟨0, (), rfl, ⟨rfl, (Or.inl rfl)⟩, P_at ht hP⟩, hS.F ht⟩) hS.2.2 dX1_readWork_181
          have hsp := itF hsp c58
          refine lv_aload_n hx hb dX1_readWork_156 rfl (lv_at hl 4 rfl) ?_
          refine lv_bipush (v := 58) hx hb dX1_readWork_157 (by decide) ?_
          obtain ⟨r59, hcr59, hsp⟩ := clE hsp
          refine call_z (w1 := [(a0, .inr (1, [.ref a1, .int g0_1, .int r59.2, .ref a2])), (a1, .inl (cI, 60, .inl f1))]) (ws' := [(a0, .inr (1, [.ref a1, .int g0_1, .int r59.2, .ref a2])), (a1, .inl (cI, 60, .inl f1)), (a2, .inr (3, [.int r53.1, .int r53.2.1, .int r57.2.2, .int r53.2.2.2.1, .ref a3])), (a3, .inl (cI, 4, .inl r53.2.2.2.2))]) (va_runV (As := [.int 58]) (rest := []) ⟨hx, hb, hml, hown, hts⟩ (k_X1_readSign l D cI cZ cC cS H.size a0 a1 g0_1 r57.2.1 (.ref a2) f1 58 r59 hcr59) (cwV 1 hts gX1_readWork_X1_readSign rfl rfl rfl nd_X1_readSign ⟨Nat.le_of_ble_eq_true rfl, Nat.le_of_ble_eq_true rfl⟩) (PB.preV (ci := 1) (q0 := 0) hKU hP hD [0, 1] rfl rfl rfl rfl) rfl rfl hl.1 rfl (lv_room (Nat.le_of_ble_eq_true rfl)) dX1_readWork_159 ⟨Nat.zero_le _, Nat.zero_le _⟩) hS hP hD hA [0, 1] rfl rfl (by first | (simp only [wset, List.set_cons_zero, List.set_cons_succ]; done) | rfl) rfl (fun H locs hP hD hS hzr59 => ?_)
          refine lv_if_eq (tgt := 180) hx hb dX1_readWork_162 (by decide) (fun c60 => ?_) (fun c60 => ?_)
          · have hsp := itT hsp c60
            refine lv_iconst (v := 0) hx hb dX1_readWork_180 (by decide) ?_
            have hres := Option.some.inj hsp
            subst hres
            exact W.zret (v := 0) hx hb hr (zE (Or.inl rfl)) (fun t ht hW => ⟨⟨0, (), rfl, ⟨rfl, (Or.inl rfl)⟩, P_at ht hP⟩, hS.F ht⟩) hS.2.2 dX1_readWork_181
          have hsp := itF hsp c60
          refine lv_aload_n hx hb dX1_readWork_165 rfl (lv_at hl 4 rfl) ?_
          refine lv_aload_n hx hb dX1_readWork_166 rfl (lv_at hl 4 rfl) ?_
          obtain ⟨r61, hcr61, hsp⟩ := clE hsp
          refine call_i (w1 := [(a0, .inr (1, [.ref a1, .int g0_1, .int r61.2, .ref a2])), (a1, .inl (cI, 60, .inl f1))]) (ws' := [(a0, .inr (1, [.ref a1, .int g0_1, .int r61.2, .ref a2])), (a1, .inl (cI, 60, .inl f1)), (a2, .inr (3, [.int r53.1, .int r53.2.1, .int r57.2.2, .int r53.2.2.2.1, .ref a3])), (a3, .inl (cI, 4, .inl r53.2.2.2.2))]) (va_runV (As := []) (rest := [.ref a0]) ⟨hx, hb, hml, hown, hts⟩ (k_X1_readNumber l D cI cZ cC cS H.size a0 a1 g0_1 r59.2 (.ref a2) f1 r61 hcr61) (cwV 0 hts gX1_readWork_X1_readNumber rfl rfl rfl nd_X1_readNumber ⟨Nat.le_of_ble_eq_true rfl, Nat.le_of_ble_eq_true rfl⟩) (PB.preV (ci := 1) (q0 := 0) hKU hP hD [0, 1] rfl rfl rfl rfl) rfl rfl hl.1 rfl (lv_room (Nat.le_of_ble_eq_true rfl)) dX1_readWork_167 ⟨Nat.zero_le _, Nat.zero_le _⟩) hS hP hD hA [0, 1] rfl rfl (by first | (simp only [wset, List.set_cons_zero, List.set_cons_succ]; done) | rfl) rfl (fun H locs hP hD hS => ?_)
          obtain ⟨r62, hcr62, hsp⟩ := clE hsp
          refine call_z (w1 := [(a0, .inr (1, [.ref a1, .int g0_1, .int r61.2, .ref a2])), (a2, .inr (3, [.int r53.1, .int r53.2.1, .int r57.2.2, .int r62.2, .ref a3]))]) (ws' := [(a0, .inr (1, [.ref a1, .int g0_1, .int r61.2, .ref a2])), (a1, .inl (cI, 60, .inl f1)), (a2, .inr (3, [.int r53.1, .int r53.2.1, .int r57.2.2, .int r62.2, .ref a3])), (a3, .inl (cI, 4, .inl r53.2.2.2.2))]) (va_runV (As := [.int r61.1]) (rest := []) ⟨hx, hb, hml, hown, hts⟩ (k_X1_readDrops l D cI cZ cC cS H.size a0 a2 (.ref a1) (.int g0_1) (.int r61.2) (.int r53.1) (.int r53.2.1) (.int r57.2.2) r53.2.2.2.1 (.ref a3) r61.1 r62 hcr62) (cwV 1 hts gX1_readWork_X1_readDrops rfl rfl rfl nd_X1_readDrops ⟨Nat.le_of_ble_eq_true rfl, Nat.le_of_ble_eq_true rfl⟩) (PB.preV (ci := 1) (q0 := 0) hKU hP hD [0, 2] rfl rfl rfl rfl) rfl rfl hl.1 rfl (lv_room (Nat.le_of_ble_eq_true rfl)) dX1_readWork_170 ⟨Nat.zero_le _, Nat.zero_le _⟩) hS hP hD hA [0, 2] rfl rfl (by first | (simp only [wset, List.set_cons_zero, List.set_cons_succ]; done) | rfl) rfl (fun H locs hP hD hS hzr62 => ?_)
          refine lv_if_eq (tgt := 180) hx hb dX1_readWork_173 (by decide) (fun c63 => ?_) (fun c63 => ?_)
          · have hsp := itT hsp c63
            refine lv_iconst (v := 0) hx hb dX1_readWork_180 (by decide) ?_
            have hres := Option.some.inj hsp
            subst hres
            exact W.zret (v := 0) hx hb hr (zE (Or.inl rfl)) (fun t ht hW => ⟨⟨0, (), rfl, ⟨rfl, (Or.inl rfl)⟩, P_at ht hP⟩, hS.F ht⟩) hS.2.2 dX1_readWork_181
          have hsp := itF hsp c63
          refine lv_iconst (v := 1) hx hb dX1_readWork_176 (by decide) ?_
          refine lv_goto (tgt := 181) hx hb dX1_readWork_177 (by decide) ?_
          have hres := Option.some.inj hsp
          subst hres
          exact W.zret (v := 1) hx hb hr (zE (Or.inr rfl)) (fun t ht hW => ⟨⟨1, (), rfl, ⟨rfl, (Or.inr rfl)⟩, P_at ht hP⟩, hS.F ht⟩) hS.2.2 dX1_readWork_181
        have hsp := itF hsp c56
        by_cases c64 : r2 = 100
        · have hsp := itT hsp c64
          refine lv_lookup (off := 82) (tgt := 182) hx hb dX1_readWork_100 (by decide) (by rw [c64]; decide) (by decide) ?_
          refine lv_aload_n hx hb dX1_readWork_182 rfl (lv_at hl 4 rfl) ?_
          refine lv_bipush (v := 8) hx hb dX1_readWork_183 (by decide) ?_
          obtain ⟨r65, hcr65, hsp⟩ := clE hsp
          refine call_z (w1 := [(a0, .inr (1, [.ref a1, .int g0_1, .int r65.2.1, .ref a2])), (a1, .inl (cI, 60, .inl f1)), (a2, .inr (3, [.int r53.1, .int r65.2.2, .int r53.2.2.1, .int r53.2.2.2.1, .ref a3]))]) (ws' := [(a0, .inr (1, [.ref a1, .int g0_1, .int r65.2.1, .ref a2])), (a1, .inl (cI, 60, .inl f1)), (a2, .inr (3, [.int r53.1, .int r65.2.2, .int r53.2.2.1, .int r53.2.2.2.1, .ref a3])), (a3, .inl (cI, 4, .inl r53.2.2.2.2))]) (va_runV (As := [.int 8]) (rest := []) ⟨hx, hb, hml, hown, hts⟩ (k_X1_readTarget l D cI cZ cC cS H.size a0 a1 a2 g0_1 x52 f1 (.int r53.1) r53.2.1 (.int r53.2.2.1) (.int r53.2.2.2.1) (.ref a3) 8 r65 hcr65) (cwV 1 hts gX1_readWork_X1_readTarget rfl rfl rfl nd_X1_readTarget ⟨Nat.le_of_ble_eq_true rfl, Nat.le_of_ble_eq_true rfl⟩) (PB.preV (ci := 1) (q0 := 0) hKU hP hD [0, 1, 2] rfl rfl rfl rfl) rfl rfl hl.1 rfl (lv_room (Nat.le_of_ble_eq_true rfl)) dX1_readWork_185 ⟨Nat.zero_le _, Nat.zero_le _⟩) hS hP hD hA [0, 1, 2] rfl rfl (by first | (simp only [wset, List.set_cons_zero, List.set_cons_succ]; done) | rfl) rfl (fun H locs hP hD hS hzr65 => ?_)
          refine lv_if_eq (tgt := 218) hx hb dX1_readWork_188 (by decide) (fun c66 => ?_) (fun c66 => ?_)
          · have hsp := itT hsp c66
            refine lv_iconst (v := 0) hx hb dX1_readWork_218 (by decide) ?_
            have hres := Option.some.inj hsp
            subst hres
            exact W.zret (v := 0) hx hb hr (zE (Or.inl rfl)) (fun t ht hW => ⟨⟨0, (), rfl, ⟨rfl, (Or.inl rfl)⟩, P_at ht hP⟩, hS.F ht⟩) hS.2.2 dX1_readWork_219
          have hsp := itF hsp c66
          refine lv_aload_n hx hb dX1_readWork_191 rfl (lv_at hl 4 rfl) ?_
          refine lv_bipush (v := 58) hx hb dX1_readWork_192 (by decide) ?_
          obtain ⟨r67, hcr67, hsp⟩ := clE hsp
          refine call_z (w1 := [(a0, .inr (1, [.ref a1, .int g0_1, .int r67.2, .ref a2])), (a1, .inl (cI, 60, .inl f1))]) (ws' := [(a0, .inr (1, [.ref a1, .int g0_1, .int r67.2, .ref a2])), (a1, .inl (cI, 60, .inl f1)), (a2, .inr (3, [.int r53.1, .int r65.2.2, .int r53.2.2.1, .int r53.2.2.2.1, .ref a3])), (a3, .inl (cI, 4, .inl r53.2.2.2.2))]) (va_runV (As := [.int 58]) (rest := []) ⟨hx, hb, hml, hown, hts⟩ (k_X1_readSign l D cI cZ cC cS H.size a0 a1 g0_1 r65.2.1 (.ref a2) f1 58 r67 hcr67) (cwV 1 hts gX1_readWork_X1_readSign rfl rfl rfl nd_X1_readSign ⟨Nat.le_of_ble_eq_true rfl, Nat.le_of_ble_eq_true rfl⟩) (PB.preV (ci := 1) (q0 := 0) hKU hP hD [0, 1] rfl rfl rfl rfl) rfl rfl hl.1 rfl (lv_room (Nat.le_of_ble_eq_true rfl)) dX1_readWork_194 ⟨Nat.zero_le _, Nat.zero_le _⟩) hS hP hD hA [0, 1] rfl rfl (by first | (simp only [wset, List.set_cons_zero, List.set_cons_succ]; done) | rfl) rfl (fun H locs hP hD hS hzr67 => ?_)
          refine lv_if_eq (tgt := 218) hx hb dX1_readWork_197 (by decide) (fun c68 => ?_) (fun c68 => ?_)
          · have hsp := itT hsp c68
            refine lv_iconst (v := 0) hx hb dX1_readWork_218 (by decide) ?_
            have hres := Option.some.inj hsp
            subst hres
            exact W.zret (v := 0) hx hb hr (zE (Or.inl rfl)) (fun t ht hW => ⟨⟨0, (), rfl, ⟨rfl, (Or.inl rfl)⟩, P_at ht hP⟩, hS.F ht⟩) hS.2.2 dX1_readWork_219
          have hsp := itF hsp c68
          refine lv_aload_n hx hb dX1_readWork_200 rfl (lv_at hl 4 rfl) ?_
          refine lv_aload_n hx hb dX1_readWork_201 rfl (lv_at hl 4 rfl) ?_
          refine lv_iconst (v := 1) hx hb dX1_readWork_202 (by decide) ?_
          refine lv_bipush (v := 9) hx hb dX1_readWork_203 (by decide) ?_
          obtain ⟨r69, hcr69, hsp⟩ := clE hsp
          refine call_i (w1 := [(a0, .inr (1, [.ref a1, .int g0_1, .int r69.2, .ref a2])), (a1, .inl (cI, 60, .inl f1))]) (ws' := [(a0, .inr (1, [.ref a1, .int g0_1, .int r69.2, .ref a2])), (a1, .inl (cI, 60, .inl f1)), (a2, .inr (3, [.int r53.1, .int r65.2.2, .int r53.2.2.1, .int r53.2.2.2.1, .ref a3])), (a3, .inl (cI, 4, .inl r53.2.2.2.2))]) (va_runV (As := [.int 1, .int 9]) (rest := [.ref a0]) ⟨hx, hb, hml, hown, hts⟩ (k_X1_readDigit l D cI cZ cC cS H.size a0 a1 g0_1 r67.2 (.ref a2) f1 1 9 r69 hcr69) (cwV 2 hts gX1_readWork_X1_readDigit rfl rfl rfl nd_X1_readDigit ⟨Nat.le_of_ble_eq_true rfl, Nat.le_of_ble_eq_true rfl⟩) (PB.preV (ci := 1) (q0 := 0) hKU hP hD [0, 1] rfl rfl rfl rfl) rfl rfl hl.1 rfl (lv_room (Nat.le_of_ble_eq_true rfl)) dX1_readWork_205 ⟨Nat.zero_le _, Nat.zero_le _⟩) hS hP hD hA [0, 1] rfl rfl (by first | (simp only [wset, List.set_cons_zero, List.set_cons_succ]; done) | rfl) rfl (fun H locs hP hD hS => ?_)
          obtain ⟨r70, hcr70, hsp⟩ := clE hsp
          refine call_z (w1 := [(a0, .inr (1, [.ref a1, .int g0_1, .int r69.2, .ref a2])), (a2, .inr (3, [.int r53.1, .int r65.2.2, .int r53.2.2.1, .int r70.2, .ref a3]))]) (ws' := [(a0, .inr (1, [.ref a1, .int g0_1, .int r69.2, .ref a2])), (a1, .inl (cI, 60, .inl f1)), (a2, .inr (3, [.int r53.1, .int r65.2.2, .int r53.2.2.1, .int r70.2, .ref a3])), (a3, .inl (cI, 4, .inl r53.2.2.2.2))]) (va_runV (As := [.int r69.1]) (rest := []) ⟨hx, hb, hml, hown, hts⟩ (k_X1_readDrops l D cI cZ cC cS H.size a0 a2 (.ref a1) (.int g0_1) (.int r69.2) (.int r53.1) (.int r65.2.2) (.int r53.2.2.1) r53.2.2.2.1 (.ref a3) r69.1 r70 hcr70) (cwV 1 hts gX1_readWork_X1_readDrops rfl rfl rfl nd_X1_readDrops ⟨Nat.le_of_ble_eq_true rfl, Nat.le_of_ble_eq_true rfl⟩) (PB.preV (ci := 1) (q0 := 0) hKU hP hD [0, 2] rfl rfl rfl rfl) rfl rfl hl.1 rfl (lv_room (Nat.le_of_ble_eq_true rfl)) dX1_readWork_208 ⟨Nat.zero_le _, Nat.zero_le _⟩) hS hP hD hA [0, 2] rfl rfl (by first | (simp only [wset, List.set_cons_zero, List.set_cons_succ]; done) | rfl) rfl (fun H locs hP hD hS hzr70 => ?_)
          refine lv_if_eq (tgt := 218) hx hb dX1_readWork_211 (by decide) (fun c71 => ?_) (fun c71 => ?_)
          · have hsp := itT hsp c71
            refine lv_iconst (v := 0) hx hb dX1_readWork_218 (by decide) ?_
            have hres := Option.some.inj hsp
            subst hres
            exact W.zret (v := 0) hx hb hr (zE (Or.inl rfl)) (fun t ht hW => ⟨⟨0, (), rfl, ⟨rfl, (Or.inl rfl)⟩, P_at ht hP⟩, hS.F ht⟩) hS.2.2 dX1_readWork_219
          have hsp := itF hsp c71
          refine lv_iconst (v := 1) hx hb dX1_readWork_214 (by decide) ?_
          refine lv_goto (tgt := 219) hx hb dX1_readWork_215 (by decide) ?_
          have hres := Option.some.inj hsp
          subst hres
          exact W.zret (v := 1) hx hb hr (zE (Or.inr rfl)) (fun t ht hW => ⟨⟨1, (), rfl, ⟨rfl, (Or.inr rfl)⟩, P_at ht hP⟩, hS.F ht⟩) hS.2.2 dX1_readWork_219
        have hsp := itF hsp c64
        by_cases c72 : r2 = 112
        · have hsp := itT hsp c72
          refine lv_lookup (off := 120) (tgt := 220) hx hb dX1_readWork_100 (by decide) (by rw [c72]; decide) (by decide) ?_
          refine lv_aload_n hx hb dX1_readWork_220 rfl (lv_at hl 4 rfl) ?_
          refine lv_bipush (v := 6) hx hb dX1_readWork_221 (by decide) ?_
          obtain ⟨r73, hcr73, hsp⟩ := clE hsp
          refine call_z (w1 := [(a0, .inr (1, [.ref a1, .int g0_1, .int r73.2.1, .ref a2])), (a1, .inl (cI, 60, .inl f1)), (a2, .inr (3, [.int r53.1, .int r73.2.2, .int r53.2.2.1, .int r53.2.2.2.1, .ref a3]))]) (ws' := [(a0, .inr (1, [.ref a1, .int g0_1, .int r73.2.1, .ref a2])), (a1, .inl (cI, 60, .inl f1)), (a2, .inr (3, [.int r53.1, .int r73.2.2, .int r53.2.2.1, .int r53.2.2.2.1, .ref a3])), (a3, .inl (cI, 4, .inl r53.2.2.2.2))]) (va_runV (As := [.int 6]) (rest := []) ⟨hx, hb, hml, hown, hts⟩ (k_X1_readTarget l D cI cZ cC cS H.size a0 a1 a2 g0_1 x52 f1 (.int r53.1) r53.2.1 (.int r53.2.2.1) (.int r53.2.2.2.1) (.ref a3) 6 r73 hcr73) (cwV 1 hts gX1_readWork_X1_readTarget rfl rfl rfl nd_X1_readTarget ⟨Nat.le_of_ble_eq_true rfl, Nat.le_of_ble_eq_true rfl⟩) (PB.preV (ci := 1) (q0 := 0) hKU hP hD [0, 1, 2] rfl rfl rfl rfl) rfl rfl hl.1 rfl (lv_room (Nat.le_of_ble_eq_true rfl)) dX1_readWork_223 ⟨Nat.zero_le _, Nat.zero_le _⟩) hS hP hD hA [0, 1, 2] rfl rfl (by first | (simp only [wset, List.set_cons_zero, List.set_cons_succ]; done) | rfl) rfl (fun H locs hP hD hS hzr73 => ?_)
          have hres := Option.some.inj hsp
          subst hres
          exact W.zret (v := r73.1) hx hb hr (zE hzr73) (fun t ht hW => ⟨⟨r73.1, (), rfl, ⟨rfl, hzr73⟩, P_at ht hP⟩, hS.F ht⟩) hS.2.2 dX1_readWork_226
        have hsp := itF hsp c72
        refine lv_lookup (off := 127) (tgt := 227) hx hb dX1_readWork_100 (by decide) ((lv_osw c54 (by decide)).trans ((lv_osw c56 (by decide)).trans ((lv_osw c64 (by decide)).trans ((lv_osw c72 (by decide)).trans rfl)))) (by decide) ?_
        refine lv_iconst (v := 1) hx hb dX1_readWork_227 (by decide) ?_
        have hres := Option.some.inj hsp
        subst hres
        exact W.zret (v := 1) hx hb hr (zE (Or.inr rfl)) (fun t ht hW => ⟨⟨1, (), rfl, ⟨rfl, (Or.inr rfl)⟩, P_at ht hP⟩, hS.F ht⟩) hS.2.2 dX1_readWork_228
      have hsp := itF hsp c51
      refine lv_iload_n hx hb dX1_readWork_66 rfl (lv_at hl 1 rfl) ?_
      refine lv_if_ne (tgt := 80) hx hb dX1_readWork_67 (by decide) (fun _ => ?_) (fun hc => absurd hc (by decide))
      refine lv_aload_n hx hb dX1_readWork_80 rfl (lv_at hl 4 rfl) ?_
      refine lv_dup hx hb dX1_readWork_81 rfl ?_
      refine va_get (D := D) (ci := 1) (v := .int r1.2) (C := RX1) (T := TX1) (N := 4) hx hb hts hi_X1 hown hK hP 0 rfl rfl 2 (by decide) hf_19 (fun _ h9 => h9) rfl dX1_readWork_82 ?_
      refine lv_iconst (v := 1) hx hb dX1_readWork_85 (by decide) ?_
      refine lv_iadd hx hb dX1_readWork_86 ?_
      obtain ⟨x74, ex74, hsp⟩ := nmE hsp
      refine r_top ex74 ?_
      refine va_put (D := D) (ci := 1) (v := .int x74) (ty := .int) (C := RX1) (T := TX1) (N := 4) hx hb hts hi_X1 tyX1 tyX1_ok nmX1 hown hK hP hD hS 0 rfl rfl 2 (by decide) hf_19 (fun _ h9 => h9) rfl (by decide +kernel) rfl rfl (Nat.le_of_ble_eq_true rfl) dX1_readWork_87 (fun H locs hP hD hS => ?_)
      have hP : va_P D vwCl [(a0, .inr (1, [.ref a1, .int g0_1, .int x74, .ref a2])), (a1, .inl (cI, 60, .inl f1)), (a2, .inr (3, [.int g2_0, .int g2_1, .int g2_2, .int g2_3, .ref a3])), (a3, .inl (cI, 4, .inl f3))] H := hP
      have hD : va_D A [(a0, .inr (1, [.ref a1, .int g0_1, .int x74, .ref a2])), (a1, .inl (cI, 60, .inl f1)), (a2, .inr (3, [.int g2_0, .int g2_1, .int g2_2, .int g2_3, .ref a3])), (a3, .inl (cI, 4, .inl f3))] := hD
      refine lv_aload_n hx hb dX1_readWork_90 rfl (lv_at hl 4 rfl) ?_
      refine va_get (D := D) (ci := 1) (v := .ref a2) (C := RX1) (T := TX1) (N := 4) hx hb hts hi_X1 hown hK hP 0 rfl rfl 3 (by decide) hf_25 (fun _ h9 => h9) rfl dX1_readWork_91 ?_
      refine lv_iload_n hx hb dX1_readWork_94 rfl (lv_at hl 2 rfl) ?_
      refine lv_iload_n hx hb dX1_readWork_95 rfl (lv_at hl 3 rfl) ?_
      obtain ⟨r75, hcr75, hsp⟩ := clE hsp
      refine call_v (w1 := [(a2, .inr (3, [.int r75.1, .int r75.2.1, .int r75.2.2.1, .int r75.2.2.2.1, .ref a3])), (a3, .inl (cI, 4, .inl r75.2.2.2.2))]) (ws' := [(a0, .inr (1, [.ref a1, .int g0_1, .int x74, .ref a2])), (a1, .inl (cI, 60, .inl f1)), (a2, .inr (3, [.int r75.1, .int r75.2.1, .int r75.2.2.1, .int r75.2.2.2.1, .ref a3])), (a3, .inl (cI, 4, .inl r75.2.2.2.2))]) (va_runV (As := [.int r2, .int r1.1]) (rest := []) ⟨hx, hb, hml, hown, hts⟩ (k_X3_begin l D cI cZ cC cS H.size a2 a3 g2_0 g2_1 g2_2 g2_3 f3 r2 r1.1 r75 hcr75) (cwV 2 hts gX1_readWork_X3_begin rfl rfl rfl nd_X3_begin ⟨Nat.le_of_ble_eq_true rfl, Nat.le_of_ble_eq_true rfl⟩) (PB.preV (ci := 3) (q0 := 2) hKU hP hD [2, 3] rfl rfl rfl rfl) rfl rfl hl.1 rfl (lv_room (Nat.le_of_ble_eq_true rfl)) dX1_readWork_96 ⟨Nat.zero_le _, Nat.zero_le _⟩) hS hP hD hA [2, 3] rfl rfl (by first | (simp only [wset, List.set_cons_zero, List.set_cons_succ]; done) | rfl) rfl (fun H locs hP hD hS => ?_)
      refine lv_iload_n hx hb dX1_readWork_99 rfl (lv_at hl 2 rfl) ?_
      by_cases c76 : r2 = 43
      · have hsp := itT hsp c76
        refine lv_lookup (off := 44) (tgt := 144) hx hb dX1_readWork_100 (by decide) (by rw [c76]; decide) (by decide) ?_
        refine lv_aload_n hx hb dX1_readWork_144 rfl (lv_at hl 4 rfl) ?_
        obtain ⟨r77, hcr77, hsp⟩ := clE hsp
        refine call_z (w1 := [(a0, .inr (1, [.ref a1, .int g0_1, .int r77.2.1, .ref a2])), (a1, .inl (cI, 60, .inl f1)), (a2, .inr (3, [.int r75.1, .int r75.2.1, .int r75.2.2.1, .int r75.2.2.2.1, .ref a3])), (a3, .inl (cI, 4, .inl r77.2.2))]) (ws' := [(a0, .inr (1, [.ref a1, .int g0_1, .int r77.2.1, .ref a2])), (a1, .inl (cI, 60, .inl f1)), (a2, .inr (3, [.int r75.1, .int r75.2.1, .int r75.2.2.1, .int r75.2.2.2.1, .ref a3])), (a3, .inl (cI, 4, .inl r77.2.2))]) (va_runV (As := []) (rest := []) ⟨hx, hb, hml, hown, hts⟩ (k_X1_readKinds l D cI cZ cC cS H.size a0 a1 a2 a3 g0_1 x74 f1 (.int r75.1) (.int r75.2.1) (.int r75.2.2.1) (.int r75.2.2.2.1) r75.2.2.2.2 r77 hcr77) (cwV 0 hts gX1_readWork_X1_readKinds rfl rfl rfl nd_X1_readKinds ⟨Nat.le_of_ble_eq_true rfl, Nat.le_of_ble_eq_true rfl⟩) (PB.preV (ci := 1) (q0 := 0) hKU hP hD [0, 1, 2, 3] rfl rfl rfl rfl) rfl rfl hl.1 rfl (lv_room (Nat.le_of_ble_eq_true rfl)) dX1_readWork_145 ⟨Nat.zero_le _, Nat.zero_le _⟩) hS hP hD hA [0, 1, 2, 3] rfl rfl (by first | (simp only [wset, List.set_cons_zero, List.set_cons_succ]; done) | rfl) rfl (fun H locs hP hD hS hzr77 => ?_)
        have hres := Option.some.inj hsp
        subst hres
        exact W.zret (v := r77.1) hx hb hr (zE hzr77) (fun t ht hW => ⟨⟨r77.1, (), rfl, ⟨rfl, hzr77⟩, P_at ht hP⟩, hS.F ht⟩) hS.2.2 dX1_readWork_148
      have hsp := itF hsp c76
      by_cases c78 : r2 = 62
      · have hsp := itT hsp c78
        refine lv_lookup (off := 49) (tgt := 149) hx hb dX1_readWork_100 (by decide) (by rw [c78]; decide) (by decide) ?_
        refine lv_aload_n hx hb dX1_readWork_149 rfl (lv_at hl 4 rfl) ?_
        obtain ⟨r79, hcr79, hsp⟩ := clE hsp
        refine call_z (w1 := [(a0, .inr (1, [.ref a1, .int g0_1, .int r79.2.1, .ref a2])), (a1, .inl (cI, 60, .inl f1)), (a2, .inr (3, [.int r75.1, .int r75.2.1, .int r79.2.2, .int r75.2.2.2.1, .ref a3]))]) (ws' := [(a0, .inr (1, [.ref a1, .int g0_1, .int r79.2.1, .ref a2])), (a1, .inl (cI, 60, .inl f1)), (a2, .inr (3, [.int r75.1, .int r75.2.1, .int r79.2.2, .int r75.2.2.2.1, .ref a3])), (a3, .inl (cI, 4, .inl r75.2.2.2.2))]) (va_runV (As := []) (rest := []) ⟨hx, hb, hml, hown, hts⟩ (k_X1_readOther l D cI cZ cC cS H.size a0 a1 a2 g0_1 x74 f1 (.int r75.1) (.int r75.2.1) r75.2.2.1 (.int r75.2.2.2.1) (.ref a3) r79 hcr79) (cwV 0 hts gX1_readWork_X1_readOther rfl rfl rfl nd_X1_readOther ⟨Nat.le_of_ble_eq_true rfl, Nat.le_of_ble_eq_true rfl⟩) (PB.preV (ci := 1) (q0 := 0) hKU hP hD [0, 1, 2] rfl rfl rfl rfl) rfl rfl hl.1 rfl (lv_room (Nat.le_of_ble_eq_true rfl)) dX1_readWork_150 ⟨Nat.zero_le _, Nat.zero_le _⟩) hS hP hD hA [0, 1, 2] rfl rfl (by first | (simp only [wset, List.set_cons_zero, List.set_cons_succ]; done) | rfl) rfl (fun H locs hP hD hS hzr79 => ?_)
        refine lv_if_eq (tgt := 180) hx hb dX1_readWork_153 (by decide) (fun c80 => ?_) (fun c80 => ?_)
        · have hsp := itT hsp c80
          refine lv_iconst (v := 0) hx hb dX1_readWork_180 (by decide) ?_
          have hres := Option.some.inj hsp
          subst hres
          exact W.zret (v := 0) hx hb hr (zE (Or.inl rfl)) (fun t ht hW => ⟨⟨0, (), rfl, ⟨rfl, (Or.inl rfl)⟩, P_at ht hP⟩, hS.F ht⟩) hS.2.2 dX1_readWork_181
        have hsp := itF hsp c80
        refine lv_aload_n hx hb dX1_readWork_156 rfl (lv_at hl 4 rfl) ?_
        refine lv_bipush (v := 58) hx hb dX1_readWork_157 (by decide) ?_
        obtain ⟨r81, hcr81, hsp⟩ := clE hsp
        refine call_z (w1 := [(a0, .inr (1, [.ref a1, .int g0_1, .int r81.2, .ref a2])), (a1, .inl (cI, 60, .inl f1))]) (ws' := [(a0, .inr (1, [.ref a1, .int g0_1, .int r81.2, .ref a2])), (a1, .inl (cI, 60, .inl f1)), (a2, .inr (3, [.int r75.1, .int r75.2.1, .int r79.2.2, .int r75.2.2.2.1, .ref a3])), (a3, .inl (cI, 4, .inl r75.2.2.2.2))]) (va_runV (As := [.int 58]) (rest := []) ⟨hx, hb, hml, hown, hts⟩ (k_X1_readSign l D cI cZ cC cS H.size a0 a1 g0_1 r79.2.1 (.ref a2) f1 58 r81 hcr81) (cwV 1 hts gX1_readWork_X1_readSign rfl rfl rfl nd_X1_readSign ⟨Nat.le_of_ble_eq_true rfl, Nat.le_of_ble_eq_true rfl⟩) (PB.preV (ci := 1) (q0 := 0) hKU hP hD [0, 1] rfl rfl rfl rfl) rfl rfl hl.1 rfl (lv_room (Nat.le_of_ble_eq_true rfl)) dX1_readWork_159 ⟨Nat.zero_le _, Nat.zero_le _⟩) hS hP hD hA [0, 1] rfl rfl (by first | (simp only [wset, List.set_cons_zero, List.set_cons_succ]; done) | rfl) rfl (fun H locs hP hD hS hzr81 => ?_)
        refine lv_if_eq (tgt := 180) hx hb dX1_readWork_162 (by decide) (fun c82 => ?_) (fun c82 => ?_)
        · have hsp := itT hsp c82
          refine lv_iconst (v := 0) hx hb dX1_readWork_180 (by decide) ?_
          have hres := Option.some.inj hsp
          subst hres
          exact W.zret (v := 0) hx hb hr (zE (Or.inl rfl)) (fun t ht hW => ⟨⟨0, (), rfl, ⟨rfl, (Or.inl rfl)⟩, P_at ht hP⟩, hS.F ht⟩) hS.2.2 dX1_readWork_181
        have hsp := itF hsp c82
        refine lv_aload_n hx hb dX1_readWork_165 rfl (lv_at hl 4 rfl) ?_
        refine lv_aload_n hx hb dX1_readWork_166 rfl (lv_at hl 4 rfl) ?_
        obtain ⟨r83, hcr83, hsp⟩ := clE hsp
        refine call_i (w1 := [(a0, .inr (1, [.ref a1, .int g0_1, .int r83.2, .ref a2])), (a1, .inl (cI, 60, .inl f1))]) (ws' := [(a0, .inr (1, [.ref a1, .int g0_1, .int r83.2, .ref a2])), (a1, .inl (cI, 60, .inl f1)), (a2, .inr (3, [.int r75.1, .int r75.2.1, .int r79.2.2, .int r75.2.2.2.1, .ref a3])), (a3, .inl (cI, 4, .inl r75.2.2.2.2))]) (va_runV (As := []) (rest := [.ref a0]) ⟨hx, hb, hml, hown, hts⟩ (k_X1_readNumber l D cI cZ cC cS H.size a0 a1 g0_1 r81.2 (.ref a2) f1 r83 hcr83) (cwV 0 hts gX1_readWork_X1_readNumber rfl rfl rfl nd_X1_readNumber ⟨Nat.le_of_ble_eq_true rfl, Nat.le_of_ble_eq_true rfl⟩) (PB.preV (ci := 1) (q0 := 0) hKU hP hD [0, 1] rfl rfl rfl rfl) rfl rfl hl.1 rfl (lv_room (Nat.le_of_ble_eq_true rfl)) dX1_readWork_167 ⟨Nat.zero_le _, Nat.zero_le _⟩) hS hP hD hA [0, 1] rfl rfl (by first | (simp only [wset, List.set_cons_zero, List.set_cons_succ]; done) | rfl) rfl (fun H locs hP hD hS => ?_)
        obtain ⟨r84, hcr84, hsp⟩ := clE hsp
        refine call_z (w1 := [(a0, .inr (1, [.ref a1, .int g0_1, .int r83.2, .ref a2])), (a2, .inr (3, [.int r75.1, .int r75.2.1, .int r79.2.2, .int r84.2, .ref a3]))]) (ws' := [(a0, .inr (1, [.ref a1, .int g0_1, .int r83.2, .ref a2])), (a1, .inl (cI, 60, .inl f1)), (a2, .inr (3, [.int r75.1, .int r75.2.1, .int r79.2.2, .int r84.2, .ref a3])), (a3, .inl (cI, 4, .inl r75.2.2.2.2))]) (va_runV (As := [.int r83.1]) (rest := []) ⟨hx, hb, hml, hown, hts⟩ (k_X1_readDrops l D cI cZ cC cS H.size a0 a2 (.ref a1) (.int g0_1) (.int r83.2) (.int r75.1) (.int r75.2.1) (.int r79.2.2) r75.2.2.2.1 (.ref a3) r83.1 r84 hcr84) (cwV 1 hts gX1_readWork_X1_readDrops rfl rfl rfl nd_X1_readDrops ⟨Nat.le_of_ble_eq_true rfl, Nat.le_of_ble_eq_true rfl⟩) (PB.preV (ci := 1) (q0 := 0) hKU hP hD [0, 2] rfl rfl rfl rfl) rfl rfl hl.1 rfl (lv_room (Nat.le_of_ble_eq_true rfl)) dX1_readWork_170 ⟨Nat.zero_le _, Nat.zero_le _⟩) hS hP hD hA [0, 2] rfl rfl (by first | (simp only [wset, List.set_cons_zero, List.set_cons_succ]; done) | rfl) rfl (fun H locs hP hD hS hzr84 => ?_)
        refine lv_if_eq (tgt := 180) hx hb dX1_readWork_173 (by decide) (fun c85 => ?_) (fun c85 => ?_)
        · have hsp := itT hsp c85
          refine lv_iconst (v := 0) hx hb dX1_readWork_180 (by decide) ?_
          have hres := Option.some.inj hsp
          subst hres
          exact W.zret (v := 0) hx hb hr (zE (Or.inl rfl)) (fun t ht hW => ⟨⟨0, (), rfl, ⟨rfl, (Or.inl rfl)⟩, P_at ht hP⟩, hS.F ht⟩) hS.2.2 dX1_readWork_181
        have hsp := itF hsp c85
        refine lv_iconst (v := 1) hx hb dX1_readWork_176 (by decide) ?_
        refine lv_goto (tgt := 181) hx hb dX1_readWork_177 (by decide) ?_
        have hres := Option.some.inj hsp
        subst hres
        exact W.zret (v := 1) hx hb hr (zE (Or.inr rfl)) (fun t ht hW => ⟨⟨1, (), rfl, ⟨rfl, (Or.inr rfl)⟩, P_at ht hP⟩, hS.F ht⟩) hS.2.2 dX1_readWork_181
      have hsp := itF hsp c78
      by_cases c86 : r2 = 100
      · have hsp := itT hsp c86
        refine lv_lookup (off := 82) (tgt := 182) hx hb dX1_readWork_100 (by decide) (by rw [c86]; decide) (by decide) ?_
        refine lv_aload_n hx hb dX1_readWork_182 rfl (lv_at hl 4 rfl) ?_
        refine lv_bipush (v := 8) hx hb dX1_readWork_183 (by decide) ?_
        obtain ⟨r87, hcr87, hsp⟩ := clE hsp
        refine call_z (w1 := [(a0, .inr (1, [.ref a1, .int g0_1, .int r87.2.1, .ref a2])), (a1, .inl (cI, 60, .inl f1)), (a2, .inr (3, [.int r75.1, .int r87.2.2, .int r75.2.2.1, .int r75.2.2.2.1, .ref a3]))]) (ws' := [(a0, .inr (1, [.ref a1, .int g0_1, .int r87.2.1, .ref a2])), (a1, .inl (cI, 60, .inl f1)), (a2, .inr (3, [.int r75.1, .int r87.2.2, .int r75.2.2.1, .int r75.2.2.2.1, .ref a3])), (a3, .inl (cI, 4, .inl r75.2.2.2.2))]) (va_runV (As := [.int 8]) (rest := []) ⟨hx, hb, hml, hown, hts⟩ (k_X1_readTarget l D cI cZ cC cS H.size a0 a1 a2 g0_1 x74 f1 (.int r75.1) r75.2.1 (.int r75.2.2.1) (.int r75.2.2.2.1) (.ref a3) 8 r87 hcr87) (cwV 1 hts gX1_readWork_X1_readTarget rfl rfl rfl nd_X1_readTarget ⟨Nat.le_of_ble_eq_true rfl, Nat.le_of_ble_eq_true rfl⟩) (PB.preV (ci := 1) (q0 := 0) hKU hP hD [0, 1, 2] rfl rfl rfl rfl) rfl rfl hl.1 rfl (lv_room (Nat.le_of_ble_eq_true rfl)) dX1_readWork_185 ⟨Nat.zero_le _, Nat.zero_le _⟩) hS hP hD hA [0, 1, 2] rfl rfl (by first | (simp only [wset, List.set_cons_zero, List.set_cons_succ]; done) | rfl) rfl (fun H locs hP hD hS hzr87 => ?_)
        refine lv_if_eq (tgt := 218) hx hb dX1_readWork_188 (by decide) (fun c88 => ?_) (fun c88 => ?_)
        · have hsp := itT hsp c88
          refine lv_iconst (v := 0) hx hb dX1_readWork_218 (by decide) ?_
          have hres := Option.some.inj hsp
          subst hres
          exact W.zret (v := 0) hx hb hr (zE (Or.inl rfl)) (fun t ht hW => ⟨⟨0, (), rfl, ⟨rfl, (Or.inl rfl)⟩, P_at ht hP⟩, hS.F ht⟩) hS.2.2 dX1_readWork_219
        have hsp := itF hsp c88
        refine lv_aload_n hx hb dX1_readWork_191 rfl (lv_at hl 4 rfl) ?_
        refine lv_bipush (v := 58) hx hb dX1_readWork_192 (by decide) ?_
        obtain ⟨r89, hcr89, hsp⟩ := clE hsp
        refine call_z (w1 := [(a0, .inr (1, [.ref a1, .int g0_1, .int r89.2, .ref a2])), (a1, .inl (cI, 60, .inl f1))]) (ws' := [(a0, .inr (1, [.ref a1, .int g0_1, .int r89.2, .ref a2])), (a1, .inl (cI, 60, .inl f1)), (a2, .inr (3, [.int r75.1, .int r87.2.2, .int r75.2.2.1, .int r75.2.2.2.1, .ref a3])), (a3, .inl (cI, 4, .inl r75.2.2.2.2))]) (va_runV (As := [.int 58]) (rest := []) ⟨hx, hb, hml, hown, hts⟩ (k_X1_readSign l D cI cZ cC cS H.size a0 a1 g0_1 r87.2.1 (.ref a2) f1 58 r89 hcr89) (cwV 1 hts gX1_readWork_X1_readSign rfl rfl rfl nd_X1_readSign ⟨Nat.le_of_ble_eq_true rfl, Nat.le_of_ble_eq_true rfl⟩) (PB.preV (ci := 1) (q0 := 0) hKU hP hD [0, 1] rfl rfl rfl rfl) rfl rfl hl.1 rfl (lv_room (Nat.le_of_ble_eq_true rfl)) dX1_readWork_194 ⟨Nat.zero_le _, Nat.zero_le _⟩) hS hP hD hA [0, 1] rfl rfl (by first | (simp only [wset, List.set_cons_zero, List.set_cons_succ]; done) | rfl) rfl (fun H locs hP hD hS hzr89 => ?_)
        refine lv_if_eq (tgt := 218) hx hb dX1_readWork_197 (by decide) (fun c90 => ?_) (fun c90 => ?_)
        · have hsp := itT hsp c90
          refine lv_iconst (v := 0) hx hb dX1_readWork_218 (by decide) ?_
          have hres := Option.some.inj hsp
          subst hres
          exact W.zret (v := 0) hx hb hr (zE (Or.inl rfl)) (fun t ht hW => ⟨⟨0, (), rfl, ⟨rfl, (Or.inl rfl)⟩, P_at ht hP⟩, hS.F ht⟩) hS.2.2 dX1_readWork_219
        have hsp := itF hsp c90
        refine lv_aload_n hx hb dX1_readWork_200 rfl (lv_at hl 4 rfl) ?_
        refine lv_aload_n hx hb dX1_readWork_201 rfl (lv_at hl 4 rfl) ?_
        refine lv_iconst (v := 1) hx hb dX1_readWork_202 (by decide) ?_
        refine lv_bipush (v := 9) hx hb dX1_readWork_203 (by decide) ?_
        obtain ⟨r91, hcr91, hsp⟩ := clE hsp
        refine call_i (w1 := [(a0, .inr (1, [.ref a1, .int g0_1, .int r91.2, .ref a2])), (a1, .inl (cI, 60, .inl f1))]) (ws' := [(a0, .inr (1, [.ref a1, .int g0_1, .int r91.2, .ref a2])), (a1, .inl (cI, 60, .inl f1)), (a2, .inr (3, [.int r75.1, .int r87.2.2, .int r75.2.2.1, .int r75.2.2.2.1, .ref a3])), (a3, .inl (cI, 4, .inl r75.2.2.2.2))]) (va_runV (As := [.int 1, .int 9]) (rest := [.ref a0]) ⟨hx, hb, hml, hown, hts⟩ (k_X1_readDigit l D cI cZ cC cS H.size a0 a1 g0_1 r89.2 (.ref a2) f1 1 9 r91 hcr91) (cwV 2 hts gX1_readWork_X1_readDigit rfl rfl rfl nd_X1_readDigit ⟨Nat.le_of_ble_eq_true rfl, Nat.le_of_ble_eq_true rfl⟩) (PB.preV (ci := 1) (q0 := 0) hKU hP hD [0, 1] rfl rfl rfl rfl) rfl rfl hl.1 rfl (lv_room (Nat.le_of_ble_eq_true rfl)) dX1_readWork_205 ⟨Nat.zero_le _, Nat.zero_le _⟩) hS hP hD hA [0, 1] rfl rfl (by first | (simp only [wset, List.set_cons_zero, List.set_cons_succ]; done) | rfl) rfl (fun H locs hP hD hS => ?_)
        obtain ⟨r92, hcr92, hsp⟩ := clE hsp
        refine call_z (w1 := [(a0, .inr (1, [.ref a1, .int g0_1, .int r91.2, .ref a2])), (a2, .inr (3, [.int r75.1, .int r87.2.2, .int r75.2.2.1, .int r92.2, .ref a3]))]) (ws' := [(a0, .inr (1, [.ref a1, .int g0_1, .int r91.2, .ref a2])), (a1, .inl (cI, 60, .inl f1)), (a2, .inr (3, [.int r75.1, .int r87.2.2, .int r75.2.2.1, .int r92.2, .ref a3])), (a3, .inl (cI, 4, .inl r75.2.2.2.2))]) (va_runV (As := [.int r91.1]) (rest := []) ⟨hx, hb, hml, hown, hts⟩ (k_X1_readDrops l D cI cZ cC cS H.size a0 a2 (.ref a1) (.int g0_1) (.int r91.2) (.int r75.1) (.int r87.2.2) (.int r75.2.2.1) r75.2.2.2.1 (.ref a3) r91.1 r92 hcr92) (cwV 1 hts gX1_readWork_X1_readDrops rfl rfl rfl nd_X1_readDrops ⟨Nat.le_of_ble_eq_true rfl, Nat.le_of_ble_eq_true rfl⟩) (PB.preV (ci := 1) (q0 := 0) hKU hP hD [0, 2] rfl rfl rfl rfl) rfl rfl hl.1 rfl (lv_room (Nat.le_of_ble_eq_true rfl)) dX1_readWork_208 ⟨Nat.zero_le _, Nat.zero_le _⟩) hS hP hD hA [0, 2] rfl rfl (by first | (simp only [wset, List.set_cons_zero, List.set_cons_succ]; done) | rfl) rfl (fun H locs hP hD hS hzr92 => ?_)
        refine lv_if_eq (tgt := 218) hx hb dX1_readWork_211 (by decide) (fun c93 => ?_) (fun c93 => ?_)
        · have hsp := itT hsp c93
          refine lv_iconst (v := 0) hx hb dX1_readWork_218 (by decide) ?_
          have hres := Option.some.inj hsp
          subst hres
          exact W.zret (v := 0) hx hb hr (zE (Or.inl rfl)) (fun t ht hW => ⟨⟨0, (), rfl, ⟨rfl, (Or.inl rfl)⟩, P_at ht hP⟩, hS.F ht⟩) hS.2.2 dX1_readWork_219
        have hsp := itF hsp c93
        refine lv_iconst (v := 1) hx hb dX1_readWork_214 (by decide) ?_
        refine lv_goto (tgt := 219) hx hb dX1_readWork_215 (by decide) ?_
        have hres := Option.some.inj hsp
        subst hres
        exact W.zret (v := 1) hx hb hr (zE (Or.inr rfl)) (fun t ht hW => ⟨⟨1, (), rfl, ⟨rfl, (Or.inr rfl)⟩, P_at ht hP⟩, hS.F ht⟩) hS.2.2 dX1_readWork_219
      have hsp := itF hsp c86
      by_cases c94 : r2 = 112
      · have hsp := itT hsp c94
        refine lv_lookup (off := 120) (tgt := 220) hx hb dX1_readWork_100 (by decide) (by rw [c94]; decide) (by decide) ?_
        refine lv_aload_n hx hb dX1_readWork_220 rfl (lv_at hl 4 rfl) ?_
        refine lv_bipush (v := 6) hx hb dX1_readWork_221 (by decide) ?_
        obtain ⟨r95, hcr95, hsp⟩ := clE hsp
        refine call_z (w1 := [(a0, .inr (1, [.ref a1, .int g0_1, .int r95.2.1, .ref a2])), (a1, .inl (cI, 60, .inl f1)), (a2, .inr (3, [.int r75.1, .int r95.2.2, .int r75.2.2.1, .int r75.2.2.2.1, .ref a3]))]) (ws' := [(a0, .inr (1, [.ref a1, .int g0_1, .int r95.2.1, .ref a2])), (a1, .inl (cI, 60, .inl f1)), (a2, .inr (3, [.int r75.1, .int r95.2.2, .int r75.2.2.1, .int r75.2.2.2.1, .ref a3])), (a3, .inl (cI, 4, .inl r75.2.2.2.2))]) (va_runV (As := [.int 6]) (rest := []) ⟨hx, hb, hml, hown, hts⟩ (k_X1_readTarget l D cI cZ cC cS H.size a0 a1 a2 g0_1 x74 f1 (.int r75.1) r75.2.1 (.int r75.2.2.1) (.int r75.2.2.2.1) (.ref a3) 6 r95 hcr95) (cwV 1 hts gX1_readWork_X1_readTarget rfl rfl rfl nd_X1_readTarget ⟨Nat.le_of_ble_eq_true rfl, Nat.le_of_ble_eq_true rfl⟩) (PB.preV (ci := 1) (q0 := 0) hKU hP hD [0, 1, 2] rfl rfl rfl rfl) rfl rfl hl.1 rfl (lv_room (Nat.le_of_ble_eq_true rfl)) dX1_readWork_223 ⟨Nat.zero_le _, Nat.zero_le _⟩) hS hP hD hA [0, 1, 2] rfl rfl (by first | (simp only [wset, List.set_cons_zero, List.set_cons_succ]; done) | rfl) rfl (fun H locs hP hD hS hzr95 => ?_)
        have hres := Option.some.inj hsp
        subst hres
        exact W.zret (v := r95.1) hx hb hr (zE hzr95) (fun t ht hW => ⟨⟨r95.1, (), rfl, ⟨rfl, hzr95⟩, P_at ht hP⟩, hS.F ht⟩) hS.2.2 dX1_readWork_226
      have hsp := itF hsp c94
      refine lv_lookup (off := 127) (tgt := 227) hx hb dX1_readWork_100 (by decide) ((lv_osw c76 (by decide)).trans ((lv_osw c78 (by decide)).trans ((lv_osw c86 (by decide)).trans ((lv_osw c94 (by decide)).trans rfl)))) (by decide) ?_
      refine lv_iconst (v := 1) hx hb dX1_readWork_227 (by decide) ?_
      have hres := Option.some.inj hsp
      subst hres
      exact W.zret (v := 1) hx hb hr (zE (Or.inr rfl)) (fun t ht hW => ⟨⟨1, (), rfl, ⟨rfl, (Or.inr rfl)⟩, P_at ht hP⟩, hS.F ht⟩) hS.2.2 dX1_readWork_228
    have hsp := itF hsp c50
    refine lv_iload_n hx hb dX1_readWork_49 rfl (lv_at hl 1 rfl) ?_
    refine lv_bipush (v := 114) hx hb dX1_readWork_50 (by decide) ?_
    refine lv_icmp_ne (tgt := 59) hx hb dX1_readWork_52 (by decide) (fun c96 => ?_) (fun c96 => ?_)
    · have hsp := itF hsp c96
      refine lv_iconst (v := 0) hx hb dX1_readWork_59 (by decide) ?_
      refine lv_istore (lv' := [(4, .int 0), (3, .int 1), (2, .int r2), (1, .int r1.1), (0, .ref a0)]) hx hb dX1_readWork_60 hl (by decide) rfl (fun ls hl => ?_)
      refine lv_iload_n hx hb dX1_readWork_62 rfl (lv_at hl 3 rfl) ?_
      refine lv_if_lt (tgt := 73) hx hb dX1_readWork_63 (by decide) (fun c97 => ?_) (fun c97 => ?_)
      · have hsp := itT hsp c97
        refine lv_iload hx hb dX1_readWork_73 (lv_at hl 0 rfl) ?_
        refine lv_if_ne (tgt := 80) hx hb dX1_readWork_75 (by decide) (fun hc => absurd hc (by decide)) (fun _ => ?_)
        refine lv_iconst (v := 0) hx hb dX1_readWork_78 (by decide) ?_
        have hres := Option.some.inj hsp
        subst hres
        exact W.zret (v := 0) hx hb hr (zE (Or.inl rfl)) (fun t ht hW => ⟨⟨0, (), rfl, ⟨rfl, (Or.inl rfl)⟩, P_at ht hP⟩, hS.F ht⟩) hS.2.2 dX1_readWork_79
      have hsp := itF hsp c97
      refine lv_iload_n hx hb dX1_readWork_66 rfl (lv_at hl 1 rfl) ?_
      refine lv_if_ne (tgt := 80) hx hb dX1_readWork_67 (by decide) (fun _ => ?_) (fun hc => absurd hc (by decide))
      refine lv_aload_n hx hb dX1_readWork_80 rfl (lv_at hl 4 rfl) ?_
      refine lv_dup hx hb dX1_readWork_81 rfl ?_
      refine va_get (D := D) (ci := 1) (v := .int r1.2) (C := RX1) (T := TX1) (N := 4) hx hb hts hi_X1 hown hK hP 0 rfl rfl 2 (by decide) hf_19 (fun _ h9 => h9) rfl dX1_readWork_82 ?_
      refine lv_iconst (v := 1) hx hb dX1_readWork_85 (by decide) ?_
      refine lv_iadd hx hb dX1_readWork_86 ?_
      obtain ⟨x98, ex98, hsp⟩ := nmE hsp
      refine r_top ex98 ?_
      refine va_put (D := D) (ci := 1) (v := .int x98) (ty := .int) (C := RX1) (T := TX1) (N := 4) hx hb hts hi_X1 tyX1 tyX1_ok nmX1 hown hK hP hD hS 0 rfl rfl 2 (by decide) hf_19 (fun _ h9 => h9) rfl (by decide +kernel) rfl rfl (Nat.le_of_ble_eq_true rfl) dX1_readWork_87 (fun H locs hP hD hS => ?_)
      have hP : va_P D vwCl [(a0, .inr (1, [.ref a1, .int g0_1, .int x98, .ref a2])), (a1, .inl (cI, 60, .inl f1)), (a2, .inr (3, [.int g2_0, .int g2_1, .int g2_2, .int g2_3, .ref a3])), (a3, .inl (cI, 4, .inl f3))] H := hP
      have hD : va_D A [(a0, .inr (1, [.ref a1, .int g0_1, .int x98, .ref a2])), (a1, .inl (cI, 60, .inl f1)), (a2, .inr (3, [.int g2_0, .int g2_1, .int g2_2, .int g2_3, .ref a3])), (a3, .inl (cI, 4, .inl f3))] := hD
      refine lv_aload_n hx hb dX1_readWork_90 rfl (lv_at hl 4 rfl) ?_
      refine va_get (D := D) (ci := 1) (v := .ref a2) (C := RX1) (T := TX1) (N := 4) hx hb hts hi_X1 hown hK hP 0 rfl rfl 3 (by decide) hf_25 (fun _ h9 => h9) rfl dX1_readWork_91 ?_
      refine lv_iload_n hx hb dX1_readWork_94 rfl (lv_at hl 2 rfl) ?_
      refine lv_iload_n hx hb dX1_readWork_95 rfl (lv_at hl 3 rfl) ?_
      obtain ⟨r99, hcr99, hsp⟩ := clE hsp
      refine call_v (w1 := [(a2, .inr (3, [.int r99.1, .int r99.2.1, .int r99.2.2.1, .int r99.2.2.2.1, .ref a3])), (a3, .inl (cI, 4, .inl r99.2.2.2.2))]) (ws' := [(a0, .inr (1, [.ref a1, .int g0_1, .int x98, .ref a2])), (a1, .inl (cI, 60, .inl f1)), (a2, .inr (3, [.int r99.1, .int r99.2.1, .int r99.2.2.1, .int r99.2.2.2.1, .ref a3])), (a3, .inl (cI, 4, .inl r99.2.2.2.2))]) (va_runV (As := [.int r2, .int r1.1]) (rest := []) ⟨hx, hb, hml, hown, hts⟩ (k_X3_begin l D cI cZ cC cS H.size a2 a3 g2_0 g2_1 g2_2 g2_3 f3 r2 r1.1 r99 hcr99) (cwV 2 hts gX1_readWork_X3_begin rfl rfl rfl nd_X3_begin ⟨Nat.le_of_ble_eq_true rfl, Nat.le_of_ble_eq_true rfl⟩) (PB.preV (ci := 3) (q0 := 2) hKU hP hD [2, 3] rfl rfl rfl rfl) rfl rfl hl.1 rfl (lv_room (Nat.le_of_ble_eq_true rfl)) dX1_readWork_96 ⟨Nat.zero_le _, Nat.zero_le _⟩) hS hP hD hA [2, 3] rfl rfl (by first | (simp only [wset, List.set_cons_zero, List.set_cons_succ]; done) | rfl) rfl (fun H locs hP hD hS => ?_)
      refine lv_iload_n hx hb dX1_readWork_99 rfl (lv_at hl 2 rfl) ?_
      by_cases c100 : r2 = 43
      · have hsp := itT hsp c100
        refine lv_lookup (off := 44) (tgt := 144) hx hb dX1_readWork_100 (by decide) (by rw [c100]; decide) (by decide) ?_
        refine lv_aload_n hx hb dX1_readWork_144 rfl (lv_at hl 4 rfl) ?_
        obtain ⟨r101, hcr101, hsp⟩ := clE hsp
        refine call_z (w1 := [(a0, .inr (1, [.ref a1, .int g0_1, .int r101.2.1, .ref a2])), (a1, .inl (cI, 60, .inl f1)), (a2, .inr (3, [.int r99.1, .int r99.2.1, .int r99.2.2.1, .int r99.2.2.2.1, .ref a3])), (a3, .inl (cI, 4, .inl r101.2.2))]) (ws' := [(a0, .inr (1, [.ref a1, .int g0_1, .int r101.2.1, .ref a2])), (a1, .inl (cI, 60, .inl f1)), (a2, .inr (3, [.int r99.1, .int r99.2.1, .int r99.2.2.1, .int r99.2.2.2.1, .ref a3])), (a3, .inl (cI, 4, .inl r101.2.2))]) (va_runV (As := []) (rest := []) ⟨hx, hb, hml, hown, hts⟩ (k_X1_readKinds l D cI cZ cC cS H.size a0 a1 a2 a3 g0_1 x98 f1 (.int r99.1) (.int r99.2.1) (.int r99.2.2.1) (.int r99.2.2.2.1) r99.2.2.2.2 r101 hcr101) (cwV 0 hts gX1_readWork_X1_readKinds rfl rfl rfl nd_X1_readKinds ⟨Nat.le_of_ble_eq_true rfl, Nat.le_of_ble_eq_true rfl⟩) (PB.preV (ci := 1) (q0 := 0) hKU hP hD [0, 1, 2, 3] rfl rfl rfl rfl) rfl rfl hl.1 rfl (lv_room (Nat.le_of_ble_eq_true rfl)) dX1_readWork_145 ⟨Nat.zero_le _, Nat.zero_le _⟩) hS hP hD hA [0, 1, 2, 3] rfl rfl (by first | (simp only [wset, List.set_cons_zero, List.set_cons_succ]; done) | rfl) rfl (fun H locs hP hD hS hzr101 => ?_)
        have hres := Option.some.inj hsp
        subst hres
        exact W.zret (v := r101.1) hx hb hr (zE hzr101) (fun t ht hW => ⟨⟨r101.1, (), rfl, ⟨rfl, hzr101⟩, P_at ht hP⟩, hS.F ht⟩) hS.2.2 dX1_readWork_148
      have hsp := itF hsp c100
      by_cases c102 : r2 = 62
      · have hsp := itT hsp c102
        refine lv_lookup (off := 49) (tgt := 149) hx hb dX1_readWork_100 (by decide) (by rw [c102]; decide) (by decide) ?_
        refine lv_aload_n hx hb dX1_readWork_149 rfl (lv_at hl 4 rfl) ?_
        obtain ⟨r103, hcr103, hsp⟩ := clE hsp
        refine call_z (w1 := [(a0, .inr (1, [.ref a1, .int g0_1, .int r103.2.1, .ref a2])), (a1, .inl (cI, 60, .inl f1)), (a2, .inr (3, [.int r99.1, .int r99.2.1, .int r103.2.2, .int r99.2.2.2.1, .ref a3]))]) (ws' := [(a0, .inr (1, [.ref a1, .int g0_1, .int r103.2.1, .ref a2])), (a1, .inl (cI, 60, .inl f1)), (a2, .inr (3, [.int r99.1, .int r99.2.1, .int r103.2.2, .int r99.2.2.2.1, .ref a3])), (a3, .inl (cI, 4, .inl r99.2.2.2.2))]) (va_runV (As := []) (rest := []) ⟨hx, hb, hml, hown, hts⟩ (k_X1_readOther l D cI cZ cC cS H.size a0 a1 a2 g0_1 x98 f1 (.int r99.1) (.int r99.2.1) r99.2.2.1 (.int r99.2.2.2.1) (.ref a3) r103 hcr103) (cwV 0 hts gX1_readWork_X1_readOther rfl rfl rfl nd_X1_readOther ⟨Nat.le_of_ble_eq_true rfl, Nat.le_of_ble_eq_true rfl⟩) (PB.preV (ci := 1) (q0 := 0) hKU hP hD [0, 1, 2] rfl rfl rfl rfl) rfl rfl hl.1 rfl (lv_room (Nat.le_of_ble_eq_true rfl)) dX1_readWork_150 ⟨Nat.zero_le _, Nat.zero_le _⟩) hS hP hD hA [0, 1, 2] rfl rfl (by first | (simp only [wset, List.set_cons_zero, List.set_cons_succ]; done) | rfl) rfl (fun H locs hP hD hS hzr103 => ?_)
        refine lv_if_eq (tgt := 180) hx hb dX1_readWork_153 (by decide) (fun c104 => ?_) (fun c104 => ?_)
        · have hsp := itT hsp c104
          refine lv_iconst (v := 0) hx hb dX1_readWork_180 (by decide) ?_
          have hres := Option.some.inj hsp
          subst hres
          exact W.zret (v := 0) hx hb hr (zE (Or.inl rfl)) (fun t ht hW => ⟨⟨0, (), rfl, ⟨rfl, (Or.inl rfl)⟩, P_at ht hP⟩, hS.F ht⟩) hS.2.2 dX1_readWork_181
        have hsp := itF hsp c104
        refine lv_aload_n hx hb dX1_readWork_156 rfl (lv_at hl 4 rfl) ?_
        refine lv_bipush (v := 58) hx hb dX1_readWork_157 (by decide) ?_
        obtain ⟨r105, hcr105, hsp⟩ := clE hsp
        refine call_z (w1 := [(a0, .inr (1, [.ref a1, .int g0_1, .int r105.2, .ref a2])), (a1, .inl (cI, 60, .inl f1))]) (ws' := [(a0, .inr (1, [.ref a1, .int g0_1, .int r105.2, .ref a2])), (a1, .inl (cI, 60, .inl f1)), (a2, .inr (3, [.int r99.1, .int r99.2.1, .int r103.2.2, .int r99.2.2.2.1, .ref a3])), (a3, .inl (cI, 4, .inl r99.2.2.2.2))]) (va_runV (As := [.int 58]) (rest := []) ⟨hx, hb, hml, hown, hts⟩ (k_X1_readSign l D cI cZ cC cS H.size a0 a1 g0_1 r103.2.1 (.ref a2) f1 58 r105 hcr105) (cwV 1 hts gX1_readWork_X1_readSign rfl rfl rfl nd_X1_readSign ⟨Nat.le_of_ble_eq_true rfl, Nat.le_of_ble_eq_true rfl⟩) (PB.preV (ci := 1) (q0 := 0) hKU hP hD [0, 1] rfl rfl rfl rfl) rfl rfl hl.1 rfl (lv_room (Nat.le_of_ble_eq_true rfl)) dX1_readWork_159 ⟨Nat.zero_le _, Nat.zero_le _⟩) hS hP hD hA [0, 1] rfl rfl (by first | (simp only [wset, List.set_cons_zero, List.set_cons_succ]; done) | rfl) rfl (fun H locs hP hD hS hzr105 => ?_)
        refine lv_if_eq (tgt := 180) hx hb dX1_readWork_162 (by decide) (fun c106 => ?_) (fun c106 => ?_)
        · have hsp := itT hsp c106
          refine lv_iconst (v := 0) hx hb dX1_readWork_180 (by decide) ?_
          have hres := Option.some.inj hsp
          subst hres
          exact W.zret (v := 0) hx hb hr (zE (Or.inl rfl)) (fun t ht hW => ⟨⟨0, (), rfl, ⟨rfl, (Or.inl rfl)⟩, P_at ht hP⟩, hS.F ht⟩) hS.2.2 dX1_readWork_181
        have hsp := itF hsp c106
        refine lv_aload_n hx hb dX1_readWork_165 rfl (lv_at hl 4 rfl) ?_
        refine lv_aload_n hx hb dX1_readWork_166 rfl (lv_at hl 4 rfl) ?_
        obtain ⟨r107, hcr107, hsp⟩ := clE hsp
        refine call_i (w1 := [(a0, .inr (1, [.ref a1, .int g0_1, .int r107.2, .ref a2])), (a1, .inl (cI, 60, .inl f1))]) (ws' := [(a0, .inr (1, [.ref a1, .int g0_1, .int r107.2, .ref a2])), (a1, .inl (cI, 60, .inl f1)), (a2, .inr (3, [.int r99.1, .int r99.2.1, .int r103.2.2, .int r99.2.2.2.1, .ref a3])), (a3, .inl (cI, 4, .inl r99.2.2.2.2))]) (va_runV (As := []) (rest := [.ref a0]) ⟨hx, hb, hml, hown, hts⟩ (k_X1_readNumber l D cI cZ cC cS H.size a0 a1 g0_1 r105.2 (.ref a2) f1 r107 hcr107) (cwV 0 hts gX1_readWork_X1_readNumber rfl rfl rfl nd_X1_readNumber ⟨Nat.le_of_ble_eq_true rfl, Nat.le_of_ble_eq_true rfl⟩) (PB.preV (ci := 1) (q0 := 0) hKU hP hD [0, 1] rfl rfl rfl rfl) rfl rfl hl.1 rfl (lv_room (Nat.le_of_ble_eq_true rfl)) dX1_readWork_167 ⟨Nat.zero_le _, Nat.zero_le _⟩) hS hP hD hA [0, 1] rfl rfl (by first | (simp only [wset, List.set_cons_zero, List.set_cons_succ]; done) | rfl) rfl (fun H locs hP hD hS => ?_)
        obtain ⟨r108, hcr108, hsp⟩ := clE hsp
        refine call_z (w1 := [(a0, .inr (1, [.ref a1, .int g0_1, .int r107.2, .ref a2])), (a2, .inr (3, [.int r99.1, .int r99.2.1, .int r103.2.2, .int r108.2, .ref a3]))]) (ws' := [(a0, .inr (1, [.ref a1, .int g0_1, .int r107.2, .ref a2])), (a1, .inl (cI, 60, .inl f1)), (a2, .inr (3, [.int r99.1, .int r99.2.1, .int r103.2.2, .int r108.2, .ref a3])), (a3, .inl (cI, 4, .inl r99.2.2.2.2))]) (va_runV (As := [.int r107.1]) (rest := []) ⟨hx, hb, hml, hown, hts⟩ (k_X1_readDrops l D cI cZ cC cS H.size a0 a2 (.ref a1) (.int g0_1) (.int r107.2) (.int r99.1) (.int r99.2.1) (.int r103.2.2) r99.2.2.2.1 (.ref a3) r107.1 r108 hcr108) (cwV 1 hts gX1_readWork_X1_readDrops rfl rfl rfl nd_X1_readDrops ⟨Nat.le_of_ble_eq_true rfl, Nat.le_of_ble_eq_true rfl⟩) (PB.preV (ci := 1) (q0 := 0) hKU hP hD [0, 2] rfl rfl rfl rfl) rfl rfl hl.1 rfl (lv_room (Nat.le_of_ble_eq_true rfl)) dX1_readWork_170 ⟨Nat.zero_le _, Nat.zero_le _⟩) hS hP hD hA [0, 2] rfl rfl (by first | (simp only [wset, List.set_cons_zero, List.set_cons_succ]; done) | rfl) rfl (fun H locs hP hD hS hzr108 => ?_)
        refine lv_if_eq (tgt := 180) hx hb dX1_readWork_173 (by decide) (fun c109 => ?_) (fun c109 => ?_)
        · have hsp := itT hsp c109
          refine lv_iconst (v := 0) hx hb dX1_readWork_180 (by decide) ?_
          have hres := Option.some.inj hsp
          subst hres
          exact W.zret (v := 0) hx hb hr (zE (Or.inl rfl)) (fun t ht hW => ⟨⟨0, (), rfl, ⟨rfl, (Or.inl rfl)⟩, P_at ht hP⟩, hS.F ht⟩) hS.2.2 dX1_readWork_181
        have hsp := itF hsp c109
        refine lv_iconst (v := 1) hx hb dX1_readWork_176 (by decide) ?_
        refine lv_goto (tgt := 181) hx hb dX1_readWork_177 (by decide) ?_
        have hres := Option.some.inj hsp
        subst hres
        exact W.zret (v := 1) hx hb hr (zE (Or.inr rfl)) (fun t ht hW => ⟨⟨1, (), rfl, ⟨rfl, (Or.inr rfl)⟩, P_at ht hP⟩, hS.F ht⟩) hS.2.2 dX1_readWork_181
      have hsp := itF hsp c102
      by_cases c110 : r2 = 100
      · have hsp := itT hsp c110
        refine lv_lookup (off := 82) (tgt := 182) hx hb dX1_readWork_100 (by decide) (by rw [c110]; decide) (by decide) ?_
        refine lv_aload_n hx hb dX1_readWork_182 rfl (lv_at hl 4 rfl) ?_
        refine lv_bipush (v := 8) hx hb dX1_readWork_183 (by decide) ?_
        obtain ⟨r111, hcr111, hsp⟩ := clE hsp
        refine call_z (w1 := [(a0, .inr (1, [.ref a1, .int g0_1, .int r111.2.1, .ref a2])), (a1, .inl (cI, 60, .inl f1)), (a2, .inr (3, [.int r99.1, .int r111.2.2, .int r99.2.2.1, .int r99.2.2.2.1, .ref a3]))]) (ws' := [(a0, .inr (1, [.ref a1, .int g0_1, .int r111.2.1, .ref a2])), (a1, .inl (cI, 60, .inl f1)), (a2, .inr (3, [.int r99.1, .int r111.2.2, .int r99.2.2.1, .int r99.2.2.2.1, .ref a3])), (a3, .inl (cI, 4, .inl r99.2.2.2.2))]) (va_runV (As := [.int 8]) (rest := []) ⟨hx, hb, hml, hown, hts⟩ (k_X1_readTarget l D cI cZ cC cS H.size a0 a1 a2 g0_1 x98 f1 (.int r99.1) r99.2.1 (.int r99.2.2.1) (.int r99.2.2.2.1) (.ref a3) 8 r111 hcr111) (cwV 1 hts gX1_readWork_X1_readTarget rfl rfl rfl nd_X1_readTarget ⟨Nat.le_of_ble_eq_true rfl, Nat.le_of_ble_eq_true rfl⟩) (PB.preV (ci := 1) (q0 := 0) hKU hP hD [0, 1, 2] rfl rfl rfl rfl) rfl rfl hl.1 rfl (lv_room (Nat.le_of_ble_eq_true rfl)) dX1_readWork_185 ⟨Nat.zero_le _, Nat.zero_le _⟩) hS hP hD hA [0, 1, 2] rfl rfl (by first | (simp only [wset, List.set_cons_zero, List.set_cons_succ]; done) | rfl) rfl (fun H locs hP hD hS hzr111 => ?_)
        refine lv_if_eq (tgt := 218) hx hb dX1_readWork_188 (by decide) (fun c112 => ?_) (fun c112 => ?_)
        · have hsp := itT hsp c112
          refine lv_iconst (v := 0) hx hb dX1_readWork_218 (by decide) ?_
          have hres := Option.some.inj hsp
          subst hres
          exact W.zret (v := 0) hx hb hr (zE (Or.inl rfl)) (fun t ht hW => ⟨⟨0, (), rfl, ⟨rfl, (Or.inl rfl)⟩, P_at ht hP⟩, hS.F ht⟩) hS.2.2 dX1_readWork_219
        have hsp := itF hsp c112
        refine lv_aload_n hx hb dX1_readWork_191 rfl (lv_at hl 4 rfl) ?_
        refine lv_bipush (v := 58) hx hb dX1_readWork_192 (by decide) ?_
        obtain ⟨r113, hcr113, hsp⟩ := clE hsp
        refine call_z (w1 := [(a0, .inr (1, [.ref a1, .int g0_1, .int r113.2, .ref a2])), (a1, .inl (cI, 60, .inl f1))]) (ws' := [(a0, .inr (1, [.ref a1, .int g0_1, .int r113.2, .ref a2])), (a1, .inl (cI, 60, .inl f1)), (a2, .inr (3, [.int r99.1, .int r111.2.2, .int r99.2.2.1, .int r99.2.2.2.1, .ref a3])), (a3, .inl (cI, 4, .inl r99.2.2.2.2))]) (va_runV (As := [.int 58]) (rest := []) ⟨hx, hb, hml, hown, hts⟩ (k_X1_readSign l D cI cZ cC cS H.size a0 a1 g0_1 r111.2.1 (.ref a2) f1 58 r113 hcr113) (cwV 1 hts gX1_readWork_X1_readSign rfl rfl rfl nd_X1_readSign ⟨Nat.le_of_ble_eq_true rfl, Nat.le_of_ble_eq_true rfl⟩) (PB.preV (ci := 1) (q0 := 0) hKU hP hD [0, 1] rfl rfl rfl rfl) rfl rfl hl.1 rfl (lv_room (Nat.le_of_ble_eq_true rfl)) dX1_readWork_194 ⟨Nat.zero_le _, Nat.zero_le _⟩) hS hP hD hA [0, 1] rfl rfl (by first | (simp only [wset, List.set_cons_zero, List.set_cons_succ]; done) | rfl) rfl (fun H locs hP hD hS hzr113 => ?_)
        refine lv_if_eq (tgt := 218) hx hb dX1_readWork_197 (by decide) (fun c114 => ?_) (fun c114 => ?_)
        · have hsp := itT hsp c114
          refine lv_iconst (v := 0) hx hb dX1_readWork_218 (by decide) ?_
          have hres := Option.some.inj hsp
          subst hres
          exact W.zret (v := 0) hx hb hr (zE (Or.inl rfl)) (fun t ht hW => ⟨⟨0, (), rfl, ⟨rfl, (Or.inl rfl)⟩, P_at ht hP⟩, hS.F ht⟩) hS.2.2 dX1_readWork_219
        have hsp := itF hsp c114
        refine lv_aload_n hx hb dX1_readWork_200 rfl (lv_at hl 4 rfl) ?_
        refine lv_aload_n hx hb dX1_readWork_201 rfl (lv_at hl 4 rfl) ?_
        refine lv_iconst (v := 1) hx hb dX1_readWork_202 (by decide) ?_
        refine lv_bipush (v := 9) hx hb dX1_readWork_203 (by decide) ?_
        obtain ⟨r115, hcr115, hsp⟩ := clE hsp
        refine call_i (w1 := [(a0, .inr (1, [.ref a1, .int g0_1, .int r115.2, .ref a2])), (a1, .inl (cI, 60, .inl f1))]) (ws' := [(a0, .inr (1, [.ref a1, .int g0_1, .int r115.2, .ref a2])), (a1, .inl (cI, 60, .inl f1)), (a2, .inr (3, [.int r99.1, .int r111.2.2, .int r99.2.2.1, .int r99.2.2.2.1, .ref a3])), (a3, .inl (cI, 4, .inl r99.2.2.2.2))]) (va_runV (As := [.int 1, .int 9]) (rest := [.ref a0]) ⟨hx, hb, hml, hown, hts⟩ (k_X1_readDigit l D cI cZ cC cS H.size a0 a1 g0_1 r113.2 (.ref a2) f1 1 9 r115 hcr115) (cwV 2 hts gX1_readWork_X1_readDigit rfl rfl rfl nd_X1_readDigit ⟨Nat.le_of_ble_eq_true rfl, Nat.le_of_ble_eq_true rfl⟩) (PB.preV (ci := 1) (q0 := 0) hKU hP hD [0, 1] rfl rfl rfl rfl) rfl rfl hl.1 rfl (lv_room (Nat.le_of_ble_eq_true rfl)) dX1_readWork_205 ⟨Nat.zero_le _, Nat.zero_le _⟩) hS hP hD hA [0, 1] rfl rfl (by first | (simp only [wset, List.set_cons_zero, List.set_cons_succ]; done) | rfl) rfl (fun H locs hP hD hS => ?_)
        obtain ⟨r116, hcr116, hsp⟩ := clE hsp
        refine call_z (w1 := [(a0, .inr (1, [.ref a1, .int g0_1, .int r115.2, .ref a2])), (a2, .inr (3, [.int r99.1, .int r111.2.2, .int r99.2.2.1, .int r116.2, .ref a3]))]) (ws' := [(a0, .inr (1, [.ref a1, .int g0_1, .int r115.2, .ref a2])), (a1, .inl (cI, 60, .inl f1)), (a2, .inr (3, [.int r99.1, .int r111.2.2, .int r99.2.2.1, .int r116.2, .ref a3])), (a3, .inl (cI, 4, .inl r99.2.2.2.2))]) (va_runV (As := [.int r115.1]) (rest := []) ⟨hx, hb, hml, hown, hts⟩ (k_X1_readDrops l D cI cZ cC cS H.size a0 a2 (.ref a1) (.int g0_1) (.int r115.2) (.int r99.1) (.int r111.2.2) (.int r99.2.2.1) r99.2.2.2.1 (.ref a3) r115.1 r116 hcr116) (cwV 1 hts gX1_readWork_X1_readDrops rfl rfl rfl nd_X1_readDrops ⟨Nat.le_of_ble_eq_true rfl, Nat.le_of_ble_eq_true rfl⟩) (PB.preV (ci := 1) (q0 := 0) hKU hP hD [0, 2] rfl rfl rfl rfl) rfl rfl hl.1 rfl (lv_room (Nat.le_of_ble_eq_true rfl)) dX1_readWork_208 ⟨Nat.zero_le _, Nat.zero_le _⟩) hS hP hD hA [0, 2] rfl rfl (by first | (simp only [wset, List.set_cons_zero, List.set_cons_succ]; done) | rfl) rfl (fun H locs hP hD hS hzr116 => ?_)
        refine lv_if_eq (tgt := 218) hx hb dX1_readWork_211 (by decide) (fun c117 => ?_) (fun c117 => ?_)
        · have hsp := itT hsp c117
          refine lv_iconst (v := 0) hx hb dX1_readWork_218 (by decide) ?_
          have hres := Option.some.inj hsp
          subst hres
          exact W.zret (v := 0) hx hb hr (zE (Or.inl rfl)) (fun t ht hW => ⟨⟨0, (), rfl, ⟨rfl, (Or.inl rfl)⟩, P_at ht hP⟩, hS.F ht⟩) hS.2.2 dX1_readWork_219
        have hsp := itF hsp c117
        refine lv_iconst (v := 1) hx hb dX1_readWork_214 (by decide) ?_
        refine lv_goto (tgt := 219) hx hb dX1_readWork_215 (by decide) ?_
        have hres := Option.some.inj hsp
        subst hres
        exact W.zret (v := 1) hx hb hr (zE (Or.inr rfl)) (fun t ht hW => ⟨⟨1, (), rfl, ⟨rfl, (Or.inr rfl)⟩, P_at ht hP⟩, hS.F ht⟩) hS.2.2 dX1_readWork_219
      have hsp := itF hsp c110
      by_cases c118 : r2 = 112
      · have hsp := itT hsp c118
        refine lv_lookup (off := 120) (tgt := 220) hx hb dX1_readWork_100 (by decide) (by rw [c118]; decide) (by decide) ?_
        refine lv_aload_n hx hb dX1_readWork_220 rfl (lv_at hl 4 rfl) ?_
        refine lv_bipush (v := 6) hx hb dX1_readWork_221 (by decide) ?_
        obtain ⟨r119, hcr119, hsp⟩ := clE hsp
        refine call_z (w1 := [(a0, .inr (1, [.ref a1, .int g0_1, .int r119.2.1, .ref a2])), (a1, .inl (cI, 60, .inl f1)), (a2, .inr (3, [.int r99.1, .int r119.2.2, .int r99.2.2.1, .int r99.2.2.2.1, .ref a3]))]) (ws' := [(a0, .inr (1, [.ref a1, .int g0_1, .int r119.2.1, .ref a2])), (a1, .inl (cI, 60, .inl f1)), (a2, .inr (3, [.int r99.1, .int r119.2.2, .int r99.2.2.1, .int r99.2.2.2.1, .ref a3])), (a3, .inl (cI, 4, .inl r99.2.2.2.2))]) (va_runV (As := [.int 6]) (rest := []) ⟨hx, hb, hml, hown, hts⟩ (k_X1_readTarget l D cI cZ cC cS H.size a0 a1 a2 g0_1 x98 f1 (.int r99.1) r99.2.1 (.int r99.2.2.1) (.int r99.2.2.2.1) (.ref a3) 6 r119 hcr119) (cwV 1 hts gX1_readWork_X1_readTarget rfl rfl rfl nd_X1_readTarget ⟨Nat.le_of_ble_eq_true rfl, Nat.le_of_ble_eq_true rfl⟩) (PB.preV (ci := 1) (q0 := 0) hKU hP hD [0, 1, 2] rfl rfl rfl rfl) rfl rfl hl.1 rfl (lv_room (Nat.le_of_ble_eq_true rfl)) dX1_readWork_223 ⟨Nat.zero_le _, Nat.zero_le _⟩) hS hP hD hA [0, 1, 2] rfl rfl (by first | (simp only [wset, List.set_cons_zero, List.set_cons_succ]; done) | rfl) rfl (fun H locs hP hD hS hzr119 => ?_)
        have hres := Option.some.inj hsp
        subst hres
        exact W.zret (v := r119.1) hx hb hr (zE hzr119) (fun t ht hW => ⟨⟨r119.1, (), rfl, ⟨rfl, hzr119⟩, P_at ht hP⟩, hS.F ht⟩) hS.2.2 dX1_readWork_226
      have hsp := itF hsp c118
      refine lv_lookup (off := 127) (tgt := 227) hx hb dX1_readWork_100 (by decide) ((lv_osw c100 (by decide)).trans ((lv_osw c102 (by decide)).trans ((lv_osw c110 (by decide)).trans ((lv_osw c118 (by decide)).trans rfl)))) (by decide) ?_
      refine lv_iconst (v := 1) hx hb dX1_readWork_227 (by decide) ?_
      have hres := Option.some.inj hsp
      subst hres
      exact W.zret (v := 1) hx hb hr (zE (Or.inr rfl)) (fun t ht hW => ⟨⟨1, (), rfl, ⟨rfl, (Or.inr rfl)⟩, P_at ht hP⟩, hS.F ht⟩) hS.2.2 dX1_readWork_228
    have hsp := itT hsp c96
    refine lv_iconst (v := 1) hx hb dX1_readWork_55 (by decide) ?_
    refine lv_goto (tgt := 60) hx hb dX1_readWork_56 (by decide) ?_
    refine lv_istore (lv' := [(4, .int 1), (3, .int 1), (2, .int r2), (1, .int r1.1), (0, .ref a0)]) hx hb dX1_readWork_60 hl (by decide) rfl (fun ls hl => ?_)
    refine lv_iload_n hx hb dX1_readWork_62 rfl (lv_at hl 3 rfl) ?_
    refine lv_if_lt (tgt := 73) hx hb dX1_readWork_63 (by decide) (fun c120 => ?_) (fun c120 => ?_)
    · have hsp := itT hsp c120
      refine lv_iload hx hb dX1_readWork_73 (lv_at hl 0 rfl) ?_
      refine lv_if_ne (tgt := 80) hx hb dX1_readWork_75 (by decide) (fun _ => ?_) (fun hc => absurd hc (by decide))
      refine lv_aload_n hx hb dX1_readWork_80 rfl (lv_at hl 4 rfl) ?_
      refine lv_dup hx hb dX1_readWork_81 rfl ?_
      refine va_get (D := D) (ci := 1) (v := .int r1.2) (C := RX1) (T := TX1) (N := 4) hx hb hts hi_X1 hown hK hP 0 rfl rfl 2 (by decide) hf_19 (fun _ h9 => h9) rfl dX1_readWork_82 ?_
      refine lv_iconst (v := 1) hx hb dX1_readWork_85 (by decide) ?_
      refine lv_iadd hx hb dX1_readWork_86 ?_
      obtain ⟨x121, ex121, hsp⟩ := nmE hsp
      refine r_top ex121 ?_
      refine va_put (D := D) (ci := 1) (v := .int x121) (ty := .int) (C := RX1) (T := TX1) (N := 4) hx hb hts hi_X1 tyX1 tyX1_ok nmX1 hown hK hP hD hS 0 rfl rfl 2 (by decide) hf_19 (fun _ h9 => h9) rfl (by decide +kernel) rfl rfl (Nat.le_of_ble_eq_true rfl) dX1_readWork_87 (fun H locs hP hD hS => ?_)
      have hP : va_P D vwCl [(a0, .inr (1, [.ref a1, .int g0_1, .int x121, .ref a2])), (a1, .inl (cI, 60, .inl f1)), (a2, .inr (3, [.int g2_0, .int g2_1, .int g2_2, .int g2_3, .ref a3])), (a3, .inl (cI, 4, .inl f3))] H := hP
      have hD : va_D A [(a0, .inr (1, [.ref a1, .int g0_1, .int x121, .ref a2])), (a1, .inl (cI, 60, .inl f1)), (a2, .inr (3, [.int g2_0, .int g2_1, .int g2_2, .int g2_3, .ref a3])), (a3, .inl (cI, 4, .inl f3))] := hD
      refine lv_aload_n hx hb dX1_readWork_90 rfl (lv_at hl 4 rfl) ?_
      refine va_get (D := D) (ci := 1) (v := .ref a2) (C := RX1) (T := TX1) (N := 4) hx hb hts hi_X1 hown hK hP 0 rfl rfl 3 (by decide) hf_25 (fun _ h9 => h9) rfl dX1_readWork_91 ?_
      refine lv_iload_n hx hb dX1_readWork_94 rfl (lv_at hl 2 rfl) ?_
      refine lv_iload_n hx hb dX1_readWork_95 rfl (lv_at hl 3 rfl) ?_
      obtain ⟨r122, hcr122, hsp⟩ := clE hsp
      refine call_v (w1 := [(a2, .inr (3, [.int r122.1, .int r122.2.1, .int r122.2.2.1, .int r122.2.2.2.1, .ref a3])), (a3, .inl (cI, 4, .inl r122.2.2.2.2))]) (ws' := [(a0, .inr (1, [.ref a1, .int g0_1, .int x121, .ref a2])), (a1, .inl (cI, 60, .inl f1)), (a2, .inr (3, [.int r122.1, .int r122.2.1, .int r122.2.2.1, .int r122.2.2.2.1, .ref a3])), (a3, .inl (cI, 4, .inl r122.2.2.2.2))]) (va_runV (As := [.int r2, .int r1.1]) (rest := []) ⟨hx, hb, hml, hown, hts⟩ (k_X3_begin l D cI cZ cC cS H.size a2 a3 g2_0 g2_1 g2_2 g2_3 f3 r2 r1.1 r122 hcr122) (cwV 2 hts gX1_readWork_X3_begin rfl rfl rfl nd_X3_begin ⟨Nat.le_of_ble_eq_true rfl, Nat.le_of_ble_eq_true rfl⟩) (PB.preV (ci := 3) (q0 := 2) hKU hP hD [2, 3] rfl rfl rfl rfl) rfl rfl hl.1 rfl (lv_room (Nat.le_of_ble_eq_true rfl)) dX1_readWork_96 ⟨Nat.zero_le _, Nat.zero_le _⟩) hS hP hD hA [2, 3] rfl rfl (by first | (simp only [wset, List.set_cons_zero, List.set_cons_succ]; done) | rfl) rfl (fun H locs hP hD hS => ?_)
      refine lv_iload_n hx hb dX1_readWork_99 rfl (lv_at hl 2 rfl) ?_
      by_cases c123 : r2 = 43
      · have hsp := itT hsp c123
        refine lv_lookup (off := 44) (tgt := 144) hx hb dX1_readWork_100 (by decide) (by rw [c123]; decide) (by decide) ?_
        refine lv_aload_n hx hb dX1_readWork_144 rfl (lv_at hl 4 rfl) ?_
        obtain ⟨r124, hcr124, hsp⟩ := clE hsp
        refine call_z (w1 := [(a0, .inr (1, [.ref a1, .int g0_1, .int r124.2.1, .ref a2])), (a1, .inl (cI, 60, .inl f1)), (a2, .inr (3, [.int r122.1, .int r122.2.1, .int r122.2.2.1, .int r122.2.2.2.1, .ref a3])), (a3, .inl (cI, 4, .inl r124.2.2))]) (ws' := [(a0, .inr (1, [.ref a1, .int g0_1, .int r124.2.1, .ref a2])), (a1, .inl (cI, 60, .inl f1)), (a2, .inr (3, [.int r122.1, .int r122.2.1, .int r122.2.2.1, .int r122.2.2.2.1, .ref a3])), (a3, .inl (cI, 4, .inl r124.2.2))]) (va_runV (As := []) (rest := []) ⟨hx, hb, hml, hown, hts⟩ (k_X1_readKinds l D cI cZ cC cS H.size a0 a1 a2 a3 g0_1 x121 f1 (.int r122.1) (.int r122.2.1) (.int r122.2.2.1) (.int r122.2.2.2.1) r122.2.2.2.2 r124 hcr124) (cwV 0 hts gX1_readWork_X1_readKinds rfl rfl rfl nd_X1_readKinds ⟨Nat.le_of_ble_eq_true rfl, Nat.le_of_ble_eq_true rfl⟩) (PB.preV (ci := 1) (q0 := 0) hKU hP hD [0, 1, 2, 3] rfl rfl rfl rfl) rfl rfl hl.1 rfl (lv_room (Nat.le_of_ble_eq_true rfl)) dX1_readWork_145 ⟨Nat.zero_le _, Nat.zero_le _⟩) hS hP hD hA [0, 1, 2, 3] rfl rfl (by first | (simp only [wset, List.set_cons_zero, List.set_cons_succ]; done) | rfl) rfl (fun H locs hP hD hS hzr124 => ?_)
        have hres := Option.some.inj hsp
        subst hres
        exact W.zret (v := r124.1) hx hb hr (zE hzr124) (fun t ht hW => ⟨⟨r124.1, (), rfl, ⟨rfl, hzr124⟩, P_at ht hP⟩, hS.F ht⟩) hS.2.2 dX1_readWork_148
      have hsp := itF hsp c123
      by_cases c125 : r2 = 62
      · have hsp := itT hsp c125
        refine lv_lookup (off := 49) (tgt := 149) hx hb dX1_readWork_100 (by decide) (by rw [c125]; decide) (by decide) ?_
        refine lv_aload_n hx hb dX1_readWork_149 rfl (lv_at hl 4 rfl) ?_
        obtain ⟨r126, hcr126, hsp⟩ := clE hsp
        refine call_z (w1 := [(a0, .inr (1, [.ref a1, .int g0_1, .int r126.2.1, .ref a2])), (a1, .inl (cI, 60, .inl f1)), (a2, .inr (3, [.int r122.1, .int r122.2.1, .int r126.2.2, .int r122.2.2.2.1, .ref a3]))]) (ws' := [(a0, .inr (1, [.ref a1, .int g0_1, .int r126.2.1, .ref a2])), (a1, .inl (cI, 60, .inl f1)), (a2, .inr (3, [.int r122.1, .int r122.2.1, .int r126.2.2, .int r122.2.2.2.1, .ref a3])), (a3, .inl (cI, 4, .inl r122.2.2.2.2))]) (va_runV (As := []) (rest := []) ⟨hx, hb, hml, hown, hts⟩ (k_X1_readOther l D cI cZ cC cS H.size a0 a1 a2 g0_1 x121 f1 (.int r122.1) (.int r122.2.1) r122.2.2.1 (.int r122.2.2.2.1) (.ref a3) r126 hcr126) (cwV 0 hts gX1_readWork_X1_readOther rfl rfl rfl nd_X1_readOther ⟨Nat.le_of_ble_eq_true rfl, Nat.le_of_ble_eq_true rfl⟩) (PB.preV (ci := 1) (q0 := 0) hKU hP hD [0, 1, 2] rfl rfl rfl rfl) rfl rfl hl.1 rfl (lv_room (Nat.le_of_ble_eq_true rfl)) dX1_readWork_150 ⟨Nat.zero_le _, Nat.zero_le _⟩) hS hP hD hA [0, 1, 2] rfl rfl (by first | (simp only [wset, List.set_cons_zero, List.set_cons_succ]; done) | rfl) rfl (fun H locs hP hD hS hzr126 => ?_)
        refine lv_if_eq (tgt := 180) hx hb dX1_readWork_153 (by decide) (fun c127 => ?_) (fun c127 => ?_)
        · have hsp := itT hsp c127
          refine lv_iconst (v := 0) hx hb dX1_readWork_180 (by decide) ?_
          have hres := Option.some.inj hsp
          subst hres
          exact W.zret (v := 0) hx hb hr (zE (Or.inl rfl)) (fun t ht hW => ⟨⟨0, (), rfl, ⟨rfl, (Or.inl rfl)⟩, P_at ht hP⟩, hS.F ht⟩) hS.2.2 dX1_readWork_181
        have hsp := itF hsp c127
        refine lv_aload_n hx hb dX1_readWork_156 rfl (lv_at hl 4 rfl) ?_
        refine lv_bipush (v := 58) hx hb dX1_readWork_157 (by decide) ?_
        obtain ⟨r128, hcr128, hsp⟩ := clE hsp
        refine call_z (w1 := [(a0, .inr (1, [.ref a1, .int g0_1, .int r128.2, .ref a2])), (a1, .inl (cI, 60, .inl f1))]) (ws' := [(a0, .inr (1, [.ref a1, .int g0_1, .int r128.2, .ref a2])), (a1, .inl (cI, 60, .inl f1)), (a2, .inr (3, [.int r122.1, .int r122.2.1, .int r126.2.2, .int r122.2.2.2.1, .ref a3])), (a3, .inl (cI, 4, .inl r122.2.2.2.2))]) (va_runV (As := [.int 58]) (rest := []) ⟨hx, hb, hml, hown, hts⟩ (k_X1_readSign l D cI cZ cC cS H.size a0 a1 g0_1 r126.2.1 (.ref a2) f1 58 r128 hcr128) (cwV 1 hts gX1_readWork_X1_readSign rfl rfl rfl nd_X1_readSign ⟨Nat.le_of_ble_eq_true rfl, Nat.le_of_ble_eq_true rfl⟩) (PB.preV (ci := 1) (q0 := 0) hKU hP hD [0, 1] rfl rfl rfl rfl) rfl rfl hl.1 rfl (lv_room (Nat.le_of_ble_eq_true rfl)) dX1_readWork_159 ⟨Nat.zero_le _, Nat.zero_le _⟩) hS hP hD hA [0, 1] rfl rfl (by first | (simp only [wset, List.set_cons_zero, List.set_cons_succ]; done) | rfl) rfl (fun H locs hP hD hS hzr128 => ?_)
        refine lv_if_eq (tgt := 180) hx hb dX1_readWork_162 (by decide) (fun c129 => ?_) (fun c129 => ?_)
        · have hsp := itT hsp c129
          refine lv_iconst (v := 0) hx hb dX1_readWork_180 (by decide) ?_
          have hres := Option.some.inj hsp
          subst hres
          exact W.zret (v := 0) hx hb hr (zE (Or.inl rfl)) (fun t ht hW => ⟨⟨0, (), rfl, ⟨rfl, (Or.inl rfl)⟩, P_at ht hP⟩, hS.F ht⟩) hS.2.2 dX1_readWork_181
        have hsp := itF hsp c129
        refine lv_aload_n hx hb dX1_readWork_165 rfl (lv_at hl 4 rfl) ?_
        refine lv_aload_n hx hb dX1_readWork_166 rfl (lv_at hl 4 rfl) ?_
        obtain ⟨r130, hcr130, hsp⟩ := clE hsp
        refine call_i (w1 := [(a0, .inr (1, [.ref a1, .int g0_1, .int r130.2, .ref a2])), (a1, .inl (cI, 60, .inl f1))]) (ws' := [(a0, .inr (1, [.ref a1, .int g0_1, .int r130.2, .ref a2])), (a1, .inl (cI, 60, .inl f1)), (a2, .inr (3, [.int r122.1, .int r122.2.1, .int r126.2.2, .int r122.2.2.2.1, .ref a3])), (a3, .inl (cI, 4, .inl r122.2.2.2.2))]) (va_runV (As := []) (rest := [.ref a0]) ⟨hx, hb, hml, hown, hts⟩ (k_X1_readNumber l D cI cZ cC cS H.size a0 a1 g0_1 r128.2 (.ref a2) f1 r130 hcr130) (cwV 0 hts gX1_readWork_X1_readNumber rfl rfl rfl nd_X1_readNumber ⟨Nat.le_of_ble_eq_true rfl, Nat.le_of_ble_eq_true rfl⟩) (PB.preV (ci := 1) (q0 := 0) hKU hP hD [0, 1] rfl rfl rfl rfl) rfl rfl hl.1 rfl (lv_room (Nat.le_of_ble_eq_true rfl)) dX1_readWork_167 ⟨Nat.zero_le _, Nat.zero_le _⟩) hS hP hD hA [0, 1] rfl rfl (by first | (simp only [wset, List.set_cons_zero, List.set_cons_succ]; done) | rfl) rfl (fun H locs hP hD hS => ?_)
        obtain ⟨r131, hcr131, hsp⟩ := clE hsp
        refine call_z (w1 := [(a0, .inr (1, [.ref a1, .int g0_1, .int r130.2, .ref a2])), (a2, .inr (3, [.int r122.1, .int r122.2.1, .int r126.2.2, .int r131.2, .ref a3]))]) (ws' := [(a0, .inr (1, [.ref a1, .int g0_1, .int r130.2, .ref a2])), (a1, .inl (cI, 60, .inl f1)), (a2, .inr (3, [.int r122.1, .int r122.2.1, .int r126.2.2, .int r131.2, .ref a3])), (a3, .inl (cI, 4, .inl r122.2.2.2.2))]) (va_runV (As := [.int r130.1]) (rest := []) ⟨hx, hb, hml, hown, hts⟩ (k_X1_readDrops l D cI cZ cC cS H.size a0 a2 (.ref a1) (.int g0_1) (.int r130.2) (.int r122.1) (.int r122.2.1) (.int r126.2.2) r122.2.2.2.1 (.ref a3) r130.1 r131 hcr131) (cwV 1 hts gX1_readWork_X1_readDrops rfl rfl rfl nd_X1_readDrops ⟨Nat.le_of_ble_eq_true rfl, Nat.le_of_ble_eq_true rfl⟩) (PB.preV (ci := 1) (q0 := 0) hKU hP hD [0, 2] rfl rfl rfl rfl) rfl rfl hl.1 rfl (lv_room (Nat.le_of_ble_eq_true rfl)) dX1_readWork_170 ⟨Nat.zero_le _, Nat.zero_le _⟩) hS hP hD hA [0, 2] rfl rfl (by first | (simp only [wset, List.set_cons_zero, List.set_cons_succ]; done) | rfl) rfl (fun H locs hP hD hS hzr131 => ?_)
        refine lv_if_eq (tgt := 180) hx hb dX1_readWork_173 (by decide) (fun c132 => ?_) (fun c132 => ?_)
        · have hsp := itT hsp c132
          refine lv_iconst (v := 0) hx hb dX1_readWork_180 (by decide) ?_
          have hres := Option.some.inj hsp
          subst hres
          exact W.zret (v := 0) hx hb hr (zE (Or.inl rfl)) (fun t ht hW => ⟨⟨0, (), rfl, ⟨rfl, (Or.inl rfl)⟩, P_at ht hP⟩, hS.F ht⟩) hS.2.2 dX1_readWork_181
        have hsp := itF hsp c132
        refine lv_iconst (v := 1) hx hb dX1_readWork_176 (by decide) ?_
        refine lv_goto (tgt := 181) hx hb dX1_readWork_177 (by decide) ?_
        have hres := Option.some.inj hsp
        subst hres
        exact W.zret (v := 1) hx hb hr (zE (Or.inr rfl)) (fun t ht hW => ⟨⟨1, (), rfl, ⟨rfl, (Or.inr rfl)⟩, P_at ht hP⟩, hS.F ht⟩) hS.2.2 dX1_readWork_181
      have hsp := itF hsp c125
      by_cases c133 : r2 = 100
      · have hsp := itT hsp c133
        refine lv_lookup (off := 82) (tgt := 182) hx hb dX1_readWork_100 (by decide) (by rw [c133]; decide) (by decide) ?_
        refine lv_aload_n hx hb dX1_readWork_182 rfl (lv_at hl 4 rfl) ?_
        refine lv_bipush (v := 8) hx hb dX1_readWork_183 (by decide) ?_
        obtain ⟨r134, hcr134, hsp⟩ := clE hsp
        refine call_z (w1 := [(a0, .inr (1, [.ref a1, .int g0_1, .int r134.2.1, .ref a2])), (a1, .inl (cI, 60, .inl f1)), (a2, .inr (3, [.int r122.1, .int r134.2.2, .int r122.2.2.1, .int r122.2.2.2.1, .ref a3]))]) (ws' := [(a0, .inr (1, [.ref a1, .int g0_1, .int r134.2.1, .ref a2])), (a1, .inl (cI, 60, .inl f1)), (a2, .inr (3, [.int r122.1, .int r134.2.2, .int r122.2.2.1, .int r122.2.2.2.1, .ref a3])), (a3, .inl (cI, 4, .inl r122.2.2.2.2))]) (va_runV (As := [.int 8]) (rest := []) ⟨hx, hb, hml, hown, hts⟩ (k_X1_readTarget l D cI cZ cC cS H.size a0 a1 a2 g0_1 x121 f1 (.int r122.1) r122.2.1 (.int r122.2.2.1) (.int r122.2.2.2.1) (.ref a3) 8 r134 hcr134) (cwV 1 hts gX1_readWork_X1_readTarget rfl rfl rfl nd_X1_readTarget ⟨Nat.le_of_ble_eq_true rfl, Nat.le_of_ble_eq_true rfl⟩) (PB.preV (ci := 1) (q0 := 0) hKU hP hD [0, 1, 2] rfl rfl rfl rfl) rfl rfl hl.1 rfl (lv_room (Nat.le_of_ble_eq_true rfl)) dX1_readWork_185 ⟨Nat.zero_le _, Nat.zero_le _⟩) hS hP hD hA [0, 1, 2] rfl rfl (by first | (simp only [wset, List.set_cons_zero, List.set_cons_succ]; done) | rfl) rfl (fun H locs hP hD hS hzr134 => ?_)
        refine lv_if_eq (tgt := 218) hx hb dX1_readWork_188 (by decide) (fun c135 => ?_) (fun c135 => ?_)
        · have hsp := itT hsp c135
          refine lv_iconst (v := 0) hx hb dX1_readWork_218 (by decide) ?_
          have hres := Option.some.inj hsp
          subst hres
          exact W.zret (v := 0) hx hb hr (zE (Or.inl rfl)) (fun t ht hW => ⟨⟨0, (), rfl, ⟨rfl, (Or.inl rfl)⟩, P_at ht hP⟩, hS.F ht⟩) hS.2.2 dX1_readWork_219
        have hsp := itF hsp c135
        refine lv_aload_n hx hb dX1_readWork_191 rfl (lv_at hl 4 rfl) ?_
        refine lv_bipush (v := 58) hx hb dX1_readWork_192 (by decide) ?_
        obtain ⟨r136, hcr136, hsp⟩ := clE hsp
        refine call_z (w1 := [(a0, .inr (1, [.ref a1, .int g0_1, .int r136.2, .ref a2])), (a1, .inl (cI, 60, .inl f1))]) (ws' := [(a0, .inr (1, [.ref a1, .int g0_1, .int r136.2, .ref a2])), (a1, .inl (cI, 60, .inl f1)), (a2, .inr (3, [.int r122.1, .int r134.2.2, .int r122.2.2.1, .int r122.2.2.2.1, .ref a3])), (a3, .inl (cI, 4, .inl r122.2.2.2.2))]) (va_runV (As := [.int 58]) (rest := []) ⟨hx, hb, hml, hown, hts⟩ (k_X1_readSign l D cI cZ cC cS H.size a0 a1 g0_1 r134.2.1 (.ref a2) f1 58 r136 hcr136) (cwV 1 hts gX1_readWork_X1_readSign rfl rfl rfl nd_X1_readSign ⟨Nat.le_of_ble_eq_true rfl, Nat.le_of_ble_eq_true rfl⟩) (PB.preV (ci := 1) (q0 := 0) hKU hP hD [0, 1] rfl rfl rfl rfl) rfl rfl hl.1 rfl (lv_room (Nat.le_of_ble_eq_true rfl)) dX1_readWork_194 ⟨Nat.zero_le _, Nat.zero_le _⟩) hS hP hD hA [0, 1] rfl rfl (by first | (simp only [wset, List.set_cons_zero, List.set_cons_succ]; done) | rfl) rfl (fun H locs hP hD hS hzr136 => ?_)
        refine lv_if_eq (tgt := 218) hx hb dX1_readWork_197 (by decide) (fun c137 => ?_) (fun c137 => ?_)
        · have hsp := itT hsp c137
          refine lv_iconst (v := 0) hx hb dX1_readWork_218 (by decide) ?_
          have hres := Option.some.inj hsp
          subst hres
          exact W.zret (v := 0) hx hb hr (zE (Or.inl rfl)) (fun t ht hW => ⟨⟨0, (), rfl, ⟨rfl, (Or.inl rfl)⟩, P_at ht hP⟩, hS.F ht⟩) hS.2.2 dX1_readWork_219
        have hsp := itF hsp c137
        refine lv_aload_n hx hb dX1_readWork_200 rfl (lv_at hl 4 rfl) ?_
        refine lv_aload_n hx hb dX1_readWork_201 rfl (lv_at hl 4 rfl) ?_
        refine lv_iconst (v := 1) hx hb dX1_readWork_202 (by decide) ?_
        refine lv_bipush (v := 9) hx hb dX1_readWork_203 (by decide) ?_
        obtain ⟨r138, hcr138, hsp⟩ := clE hsp
        refine call_i (w1 := [(a0, .inr (1, [.ref a1, .int g0_1, .int r138.2, .ref a2])), (a1, .inl (cI, 60, .inl f1))]) (ws' := [(a0, .inr (1, [.ref a1, .int g0_1, .int r138.2, .ref a2])), (a1, .inl (cI, 60, .inl f1)), (a2, .inr (3, [.int r122.1, .int r134.2.2, .int r122.2.2.1, .int r122.2.2.2.1, .ref a3])), (a3, .inl (cI, 4, .inl r122.2.2.2.2))]) (va_runV (As := [.int 1, .int 9]) (rest := [.ref a0]) ⟨hx, hb, hml, hown, hts⟩ (k_X1_readDigit l D cI cZ cC cS H.size a0 a1 g0_1 r136.2 (.ref a2) f1 1 9 r138 hcr138) (cwV 2 hts gX1_readWork_X1_readDigit rfl rfl rfl nd_X1_readDigit ⟨Nat.le_of_ble_eq_true rfl, Nat.le_of_ble_eq_true rfl⟩) (PB.preV (ci := 1) (q0 := 0) hKU hP hD [0, 1] rfl rfl rfl rfl) rfl rfl hl.1 rfl (lv_room (Nat.le_of_ble_eq_true rfl)) dX1_readWork_205 ⟨Nat.zero_le _, Nat.zero_le _⟩) hS hP hD hA [0, 1] rfl rfl (by first | (simp only [wset, List.set_cons_zero, List.set_cons_succ]; done) | rfl) rfl (fun H locs hP hD hS => ?_)
        obtain ⟨r139, hcr139, hsp⟩ := clE hsp
        refine call_z (w1 := [(a0, .inr (1, [.ref a1, .int g0_1, .int r138.2, .ref a2])), (a2, .inr (3, [.int r122.1, .int r134.2.2, .int r122.2.2.1, .int r139.2, .ref a3]))]) (ws' := [(a0, .inr (1, [.ref a1, .int g0_1, .int r138.2, .ref a2])), (a1, .inl (cI, 60, .inl f1)), (a2, .inr (3, [.int r122.1, .int r134.2.2, .int r122.2.2.1, .int r139.2, .ref a3])), (a3, .inl (cI, 4, .inl r122.2.2.2.2))]) (va_runV (As := [.int r138.1]) (rest := []) ⟨hx, hb, hml, hown, hts⟩ (k_X1_readDrops l D cI cZ cC cS H.size a0 a2 (.ref a1) (.int g0_1) (.int r138.2) (.int r122.1) (.int r134.2.2) (.int r122.2.2.1) r122.2.2.2.1 (.ref a3) r138.1 r139 hcr139) (cwV 1 hts gX1_readWork_X1_readDrops rfl rfl rfl nd_X1_readDrops ⟨Nat.le_of_ble_eq_true rfl, Nat.le_of_ble_eq_true rfl⟩) (PB.preV (ci := 1) (q0 := 0) hKU hP hD [0, 2] rfl rfl rfl rfl) rfl rfl hl.1 rfl (lv_room (Nat.le_of_ble_eq_true rfl)) dX1_readWork_208 ⟨Nat.zero_le _, Nat.zero_le _⟩) hS hP hD hA [0, 2] rfl rfl (by first | (simp only [wset, List.set_cons_zero, List.set_cons_succ]; done) | rfl) rfl (fun H locs hP hD hS hzr139 => ?_)
        refine lv_if_eq (tgt := 218) hx hb dX1_readWork_211 (by decide) (fun c140 => ?_) (fun c140 => ?_)
        · have hsp := itT hsp c140
          refine lv_iconst (v := 0) hx hb dX1_readWork_218 (by decide) ?_
          have hres := Option.some.inj hsp
          subst hres
          exact W.zret (v := 0) hx hb hr (zE (Or.inl rfl)) (fun t ht hW => ⟨⟨0, (), rfl, ⟨rfl, (Or.inl rfl)⟩, P_at ht hP⟩, hS.F ht⟩) hS.2.2 dX1_readWork_219
        have hsp := itF hsp c140
        refine lv_iconst (v := 1) hx hb dX1_readWork_214 (by decide) ?_
        refine lv_goto (tgt := 219) hx hb dX1_readWork_215 (by decide) ?_
        have hres := Option.some.inj hsp
        subst hres
        exact W.zret (v := 1) hx hb hr (zE (Or.inr rfl)) (fun t ht hW => ⟨⟨1, (), rfl, ⟨rfl, (Or.inr rfl)⟩, P_at ht hP⟩, hS.F ht⟩) hS.2.2 dX1_readWork_219
      have hsp := itF hsp c133
      by_cases c141 : r2 = 112
      · have hsp := itT hsp c141
        refine lv_lookup (off := 120) (tgt := 220) hx hb dX1_readWork_100 (by decide) (by rw [c141]; decide) (by decide) ?_
        refine lv_aload_n hx hb dX1_readWork_220 rfl (lv_at hl 4 rfl) ?_
        refine lv_bipush (v := 6) hx hb dX1_readWork_221 (by decide) ?_
        obtain ⟨r142, hcr142, hsp⟩ := clE hsp
        refine call_z (w1 := [(a0, .inr (1, [.ref a1, .int g0_1, .int r142.2.1, .ref a2])), (a1, .inl (cI, 60, .inl f1)), (a2, .inr (3, [.int r122.1, .int r142.2.2, .int r122.2.2.1, .int r122.2.2.2.1, .ref a3]))]) (ws' := [(a0, .inr (1, [.ref a1, .int g0_1, .int r142.2.1, .ref a2])), (a1, .inl (cI, 60, .inl f1)), (a2, .inr (3, [.int r122.1, .int r142.2.2, .int r122.2.2.1, .int r122.2.2.2.1, .ref a3])), (a3, .inl (cI, 4, .inl r122.2.2.2.2))]) (va_runV (As := [.int 6]) (rest := []) ⟨hx, hb, hml, hown, hts⟩ (k_X1_readTarget l D cI cZ cC cS H.size a0 a1 a2 g0_1 x121 f1 (.int r122.1) r122.2.1 (.int r122.2.2.1) (.int r122.2.2.2.1) (.ref a3) 6 r142 hcr142) (cwV 1 hts gX1_readWork_X1_readTarget rfl rfl rfl nd_X1_readTarget ⟨Nat.le_of_ble_eq_true rfl, Nat.le_of_ble_eq_true rfl⟩) (PB.preV (ci := 1) (q0 := 0) hKU hP hD [0, 1, 2] rfl rfl rfl rfl) rfl rfl hl.1 rfl (lv_room (Nat.le_of_ble_eq_true rfl)) dX1_readWork_223 ⟨Nat.zero_le _, Nat.zero_le _⟩) hS hP hD hA [0, 1, 2] rfl rfl (by first | (simp only [wset, List.set_cons_zero, List.set_cons_succ]; done) | rfl) rfl (fun H locs hP hD hS hzr142 => ?_)
        have hres := Option.some.inj hsp
        subst hres
        exact W.zret (v := r142.1) hx hb hr (zE hzr142) (fun t ht hW => ⟨⟨r142.1, (), rfl, ⟨rfl, hzr142⟩, P_at ht hP⟩, hS.F ht⟩) hS.2.2 dX1_readWork_226
      have hsp := itF hsp c141
      refine lv_lookup (off := 127) (tgt := 227) hx hb dX1_readWork_100 (by decide) ((lv_osw c123 (by decide)).trans ((lv_osw c125 (by decide)).trans ((lv_osw c133 (by decide)).trans ((lv_osw c141 (by decide)).trans rfl)))) (by decide) ?_
      refine lv_iconst (v := 1) hx hb dX1_readWork_227 (by decide) ?_
      have hres := Option.some.inj hsp
      subst hres
      exact W.zret (v := 1) hx hb hr (zE (Or.inr rfl)) (fun t ht hW => ⟨⟨1, (), rfl, ⟨rfl, (Or.inr rfl)⟩, P_at ht hP⟩, hS.F ht⟩) hS.2.2 dX1_readWork_228
    have hsp := itF hsp c120
    refine lv_iload_n hx hb dX1_readWork_66 rfl (lv_at hl 1 rfl) ?_
    refine lv_if_ne (tgt := 80) hx hb dX1_readWork_67 (by decide) (fun _ => ?_) (fun hc => absurd hc (by decide))
    refine lv_aload_n hx hb dX1_readWork_80 rfl (lv_at hl 4 rfl) ?_
    refine lv_dup hx hb dX1_readWork_81 rfl ?_
    refine va_get (D := D) (ci := 1) (v := .int r1.2) (C := RX1) (T := TX1) (N := 4) hx hb hts hi_X1 hown hK hP 0 rfl rfl 2 (by decide) hf_19 (fun _ h9 => h9) rfl dX1_readWork_82 ?_
    refine lv_iconst (v := 1) hx hb dX1_readWork_85 (by decide) ?_
    refine lv_iadd hx hb dX1_readWork_86 ?_
    obtain ⟨x143, ex143, hsp⟩ := nmE hsp
    refine r_top ex143 ?_
    refine va_put (D := D) (ci := 1) (v := .int x143) (ty := .int) (C := RX1) (T := TX1) (N := 4) hx hb hts hi_X1 tyX1 tyX1_ok nmX1 hown hK hP hD hS 0 rfl rfl 2 (by decide) hf_19 (fun _ h9 => h9) rfl (by decide +kernel) rfl rfl (Nat.le_of_ble_eq_true rfl) dX1_readWork_87 (fun H locs hP hD hS => ?_)
    have hP : va_P D vwCl [(a0, .inr (1, [.ref a1, .int g0_1, .int x143, .ref a2])), (a1, .inl (cI, 60, .inl f1)), (a2, .inr (3, [.int g2_0, .int g2_1, .int g2_2, .int g2_3, .ref a3])), (a3, .inl (cI, 4, .inl f3))] H := hP
    have hD : va_D A [(a0, .inr (1, [.ref a1, .int g0_1, .int x143, .ref a2])), (a1, .inl (cI, 60, .inl f1)), (a2, .inr (3, [.int g2_0, .int g2_1, .int g2_2, .int g2_3, .ref a3])), (a3, .inl (cI, 4, .inl f3))] := hD
    refine lv_aload_n hx hb dX1_readWork_90 rfl (lv_at hl 4 rfl) ?_
    refine va_get (D := D) (ci := 1) (v := .ref a2) (C := RX1) (T := TX1) (N := 4) hx hb hts hi_X1 hown hK hP 0 rfl rfl 3 (by decide) hf_25 (fun _ h9 => h9) rfl dX1_readWork_91 ?_
    refine lv_iload_n hx hb dX1_readWork_94 rfl (lv_at hl 2 rfl) ?_
    refine lv_iload_n hx hb dX1_readWork_95 rfl (lv_at hl 3 rfl) ?_
    obtain ⟨r144, hcr144, hsp⟩ := clE hsp
    refine call_v (w1 := [(a2, .inr (3, [.int r144.1, .int r144.2.1, .int r144.2.2.1, .int r144.2.2.2.1, .ref a3])), (a3, .inl (cI, 4, .inl r144.2.2.2.2))]) (ws' := [(a0, .inr (1, [.ref a1, .int g0_1, .int x143, .ref a2])), (a1, .inl (cI, 60, .inl f1)), (a2, .inr (3, [.int r144.1, .int r144.2.1, .int r144.2.2.1, .int r144.2.2.2.1, .ref a3])), (a3, .inl (cI, 4, .inl r144.2.2.2.2))]) (va_runV (As := [.int r2, .int r1.1]) (rest := []) ⟨hx, hb, hml, hown, hts⟩ (k_X3_begin l D cI cZ cC cS H.size a2 a3 g2_0 g2_1 g2_2 g2_3 f3 r2 r1.1 r144 hcr144) (cwV 2 hts gX1_readWork_X3_begin rfl rfl rfl nd_X3_begin ⟨Nat.le_of_ble_eq_true rfl, Nat.le_of_ble_eq_true rfl⟩) (PB.preV (ci := 3) (q0 := 2) hKU hP hD [2, 3] rfl rfl rfl rfl) rfl rfl hl.1 rfl (lv_room (Nat.le_of_ble_eq_true rfl)) dX1_readWork_96 ⟨Nat.zero_le _, Nat.zero_le _⟩) hS hP hD hA [2, 3] rfl rfl (by first | (simp only [wset, List.set_cons_zero, List.set_cons_succ]; done) | rfl) rfl (fun H locs hP hD hS => ?_)
    refine lv_iload_n hx hb dX1_readWork_99 rfl (lv_at hl 2 rfl) ?_
    by_cases c145 : r2 = 43
    · have hsp := itT hsp c145
      refine lv_lookup (off := 44) (tgt := 144) hx hb dX1_readWork_100 (by decide) (by rw [c145]; decide) (by decide) ?_
      refine lv_aload_n hx hb dX1_readWork_144 rfl (lv_at hl 4 rfl) ?_
      obtain ⟨r146, hcr146, hsp⟩ := clE hsp
      refine call_z (w1 := [(a0, .inr (1, [.ref a1, .int g0_1, .int r146.2.1, .ref a2])), (a1, .inl (cI, 60, .inl f1)), (a2, .inr (3, [.int r144.1, .int r144.2.1, .int r144.2.2.1, .int r144.2.2.2.1, .ref a3])), (a3, .inl (cI, 4, .inl r146.2.2))]) (ws' := [(a0, .inr (1, [.ref a1, .int g0_1, .int r146.2.1, .ref a2])), (a1, .inl (cI, 60, .inl f1)), (a2, .inr (3, [.int r144.1, .int r144.2.1, .int r144.2.2.1, .int r144.2.2.2.1, .ref a3])), (a3, .inl (cI, 4, .inl r146.2.2))]) (va_runV (As := []) (rest := []) ⟨hx, hb, hml, hown, hts⟩ (k_X1_readKinds l D cI cZ cC cS H.size a0 a1 a2 a3 g0_1 x143 f1 (.int r144.1) (.int r144.2.1) (.int r144.2.2.1) (.int r144.2.2.2.1) r144.2.2.2.2 r146 hcr146) (cwV 0 hts gX1_readWork_X1_readKinds rfl rfl rfl nd_X1_readKinds ⟨Nat.le_of_ble_eq_true rfl, Nat.le_of_ble_eq_true rfl⟩) (PB.preV (ci := 1) (q0 := 0) hKU hP hD [0, 1, 2, 3] rfl rfl rfl rfl) rfl rfl hl.1 rfl (lv_room (Nat.le_of_ble_eq_true rfl)) dX1_readWork_145 ⟨Nat.zero_le _, Nat.zero_le _⟩) hS hP hD hA [0, 1, 2, 3] rfl rfl (by first | (simp only [wset, List.set_cons_zero, List.set_cons_succ]; done) | rfl) rfl (fun H locs hP hD hS hzr146 => ?_)
      have hres := Option.some.inj hsp
      subst hres
      exact W.zret (v := r146.1) hx hb hr (zE hzr146) (fun t ht hW => ⟨⟨r146.1, (), rfl, ⟨rfl, hzr146⟩, P_at ht hP⟩, hS.F ht⟩) hS.2.2 dX1_readWork_148
    have hsp := itF hsp c145
    by_cases c147 : r2 = 62
    · have hsp := itT hsp c147
      refine lv_lookup (off := 49) (tgt := 149) hx hb dX1_readWork_100 (by decide) (by rw [c147]; decide) (by decide) ?_
      refine lv_aload_n hx hb dX1_readWork_149 rfl (lv_at hl 4 rfl) ?_
      obtain ⟨r148, hcr148, hsp⟩ := clE hsp
      refine call_z (w1 := [(a0, .inr (1, [.ref a1, .int g0_1, .int r148.2.1, .ref a2])), (a1, .inl (cI, 60, .inl f1)), (a2, .inr (3, [.int r144.1, .int r144.2.1, .int r148.2.2, .int r144.2.2.2.1, .ref a3]))]) (ws' := [(a0, .inr (1, [.ref a1, .int g0_1, .int r148.2.1, .ref a2])), (a1, .inl (cI, 60, .inl f1)), (a2, .inr (3, [.int r144.1, .int r144.2.1, .int r148.2.2, .int r144.2.2.2.1, .ref a3])), (a3, .inl (cI, 4, .inl r144.2.2.2.2))]) (va_runV (As := []) (rest := []) ⟨hx, hb, hml, hown, hts⟩ (k_X1_readOther l D cI cZ cC cS H.size a0 a1 a2 g0_1 x143 f1 (.int r144.1) (.int r144.2.1) r144.2.2.1 (.int r144.2.2.2.1) (.ref a3) r148 hcr148) (cwV 0 hts gX1_readWork_X1_readOther rfl rfl rfl nd_X1_readOther ⟨Nat.le_of_ble_eq_true rfl, Nat.le_of_ble_eq_true rfl⟩) (PB.preV (ci := 1) (q0 := 0) hKU hP hD [0, 1, 2] rfl rfl rfl rfl) rfl rfl hl.1 rfl (lv_room (Nat.le_of_ble_eq_true rfl)) dX1_readWork_150 ⟨Nat.zero_le _, Nat.zero_le _⟩) hS hP hD hA [0, 1, 2] rfl rfl (by first | (simp only [wset, List.set_cons_zero, List.set_cons_succ]; done) | rfl) rfl (fun H locs hP hD hS hzr148 => ?_)
      refine lv_if_eq (tgt := 180) hx hb dX1_readWork_153 (by decide) (fun c149 => ?_) (fun c149 => ?_)
      · have hsp := itT hsp c149
        refine lv_iconst (v := 0) hx hb dX1_readWork_180 (by decide) ?_
        have hres := Option.some.inj hsp
        subst hres
        exact W.zret (v := 0) hx hb hr (zE (Or.inl rfl)) (fun t ht hW => ⟨⟨0, (), rfl, ⟨rfl, (Or.inl rfl)⟩, P_at ht hP⟩, hS.F ht⟩) hS.2.2 dX1_readWork_181
      have hsp := itF hsp c149
      refine lv_aload_n hx hb dX1_readWork_156 rfl (lv_at hl 4 rfl) ?_
      refine lv_bipush (v := 58) hx hb dX1_readWork_157 (by decide) ?_
      obtain ⟨r150, hcr150, hsp⟩ := clE hsp
      refine call_z (w1 := [(a0, .inr (1, [.ref a1, .int g0_1, .int r150.2, .ref a2])), (a1, .inl (cI, 60, .inl f1))]) (ws' := [(a0, .inr (1, [.ref a1, .int g0_1, .int r150.2, .ref a2])), (a1, .inl (cI, 60, .inl f1)), (a2, .inr (3, [.int r144.1, .int r144.2.1, .int r148.2.2, .int r144.2.2.2.1, .ref a3])), (a3, .inl (cI, 4, .inl r144.2.2.2.2))]) (va_runV (As := [.int 58]) (rest := []) ⟨hx, hb, hml, hown, hts⟩ (k_X1_readSign l D cI cZ cC cS H.size a0 a1 g0_1 r148.2.1 (.ref a2) f1 58 r150 hcr150) (cwV 1 hts gX1_readWork_X1_readSign rfl rfl rfl nd_X1_readSign ⟨Nat.le_of_ble_eq_true rfl, Nat.le_of_ble_eq_true rfl⟩) (PB.preV (ci := 1) (q0 := 0) hKU hP hD [0, 1] rfl rfl rfl rfl) rfl rfl hl.1 rfl (lv_room (Nat.le_of_ble_eq_true rfl)) dX1_readWork_159 ⟨Nat.zero_le _, Nat.zero_le _⟩) hS hP hD hA [0, 1] rfl rfl (by first | (simp only [wset, List.set_cons_zero, List.set_cons_succ]; done) | rfl) rfl (fun H locs hP hD hS hzr150 => ?_)
      refine lv_if_eq (tgt := 180) hx hb dX1_readWork_162 (by decide) (fun c151 => ?_) (fun c151 => ?_)
      · have hsp := itT hsp c151
        refine lv_iconst (v := 0) hx hb dX1_readWork_180 (by decide) ?_
        have hres := Option.some.inj hsp
        subst hres
        exact W.zret (v := 0) hx hb hr (zE (Or.inl rfl)) (fun t ht hW => ⟨⟨0, (), rfl, ⟨rfl, (Or.inl rfl)⟩, P_at ht hP⟩, hS.F ht⟩) hS.2.2 dX1_readWork_181
      have hsp := itF hsp c151
      refine lv_aload_n hx hb dX1_readWork_165 rfl (lv_at hl 4 rfl) ?_
      refine lv_aload_n hx hb dX1_readWork_166 rfl (lv_at hl 4 rfl) ?_
      obtain ⟨r152, hcr152, hsp⟩ := clE hsp
      refine call_i (w1 := [(a0, .inr (1, [.ref a1, .int g0_1, .int r152.2, .ref a2])), (a1, .inl (cI, 60, .inl f1))]) (ws' := [(a0, .inr (1, [.ref a1, .int g0_1, .int r152.2, .ref a2])), (a1, .inl (cI, 60, .inl f1)), (a2, .inr (3, [.int r144.1, .int r144.2.1, .int r148.2.2, .int r144.2.2.2.1, .ref a3])), (a3, .inl (cI, 4, .inl r144.2.2.2.2))]) (va_runV (As := []) (rest := [.ref a0]) ⟨hx, hb, hml, hown, hts⟩ (k_X1_readNumber l D cI cZ cC cS H.size a0 a1 g0_1 r150.2 (.ref a2) f1 r152 hcr152) (cwV 0 hts gX1_readWork_X1_readNumber rfl rfl rfl nd_X1_readNumber ⟨Nat.le_of_ble_eq_true rfl, Nat.le_of_ble_eq_true rfl⟩) (PB.preV (ci := 1) (q0 := 0) hKU hP hD [0, 1] rfl rfl rfl rfl) rfl rfl hl.1 rfl (lv_room (Nat.le_of_ble_eq_true rfl)) dX1_readWork_167 ⟨Nat.zero_le _, Nat.zero_le _⟩) hS hP hD hA [0, 1] rfl rfl (by first | (simp only [wset, List.set_cons_zero, List.set_cons_succ]; done) | rfl) rfl (fun H locs hP hD hS => ?_)
      obtain ⟨r153, hcr153, hsp⟩ := clE hsp
      refine call_z (w1 := [(a0, .inr (1, [.ref a1, .int g0_1, .int r152.2, .ref a2])), (a2, .inr (3, [.int r144.1, .int r144.2.1, .int r148.2.2, .int r153.2, .ref a3]))]) (ws' := [(a0, .inr (1, [.ref a1, .int g0_1, .int r152.2, .ref a2])), (a1, .inl (cI, 60, .inl f1)), (a2, .inr (3, [.int r144.1, .int r144.2.1, .int r148.2.2, .int r153.2, .ref a3])), (a3, .inl (cI, 4, .inl r144.2.2.2.2))]) (va_runV (As := [.int r152.1]) (rest := []) ⟨hx, hb, hml, hown, hts⟩ (k_X1_readDrops l D cI cZ cC cS H.size a0 a2 (.ref a1) (.int g0_1) (.int r152.2) (.int r144.1) (.int r144.2.1) (.int r148.2.2) r144.2.2.2.1 (.ref a3) r152.1 r153 hcr153) (cwV 1 hts gX1_readWork_X1_readDrops rfl rfl rfl nd_X1_readDrops ⟨Nat.le_of_ble_eq_true rfl, Nat.le_of_ble_eq_true rfl⟩) (PB.preV (ci := 1) (q0 := 0) hKU hP hD [0, 2] rfl rfl rfl rfl) rfl rfl hl.1 rfl (lv_room (Nat.le_of_ble_eq_true rfl)) dX1_readWork_170 ⟨Nat.zero_le _, Nat.zero_le _⟩) hS hP hD hA [0, 2] rfl rfl (by first | (simp only [wset, List.set_cons_zero, List.set_cons_succ]; done) | rfl) rfl (fun H locs hP hD hS hzr153 => ?_)
      refine lv_if_eq (tgt := 180) hx hb dX1_readWork_173 (by decide) (fun c154 => ?_) (fun c154 => ?_)
      · have hsp := itT hsp c154
        refine lv_iconst (v := 0) hx hb dX1_readWork_180 (by decide) ?_
        have hres := Option.some.inj hsp
        subst hres
        exact W.zret (v := 0) hx hb hr (zE (Or.inl rfl)) (fun t ht hW => ⟨⟨0, (), rfl, ⟨rfl, (Or.inl rfl)⟩, P_at ht hP⟩, hS.F ht⟩) hS.2.2 dX1_readWork_181
      have hsp := itF hsp c154
      refine lv_iconst (v := 1) hx hb dX1_readWork_176 (by decide) ?_
      refine lv_goto (tgt := 181) hx hb dX1_readWork_177 (by decide) ?_
      have hres := Option.some.inj hsp
      subst hres
      exact W.zret (v := 1) hx hb hr (zE (Or.inr rfl)) (fun t ht hW => ⟨⟨1, (), rfl, ⟨rfl, (Or.inr rfl)⟩, P_at ht hP⟩, hS.F ht⟩) hS.2.2 dX1_readWork_181
    have hsp := itF hsp c147
    by_cases c155 : r2 = 100
    · have hsp := itT hsp c155
      refine lv_lookup (off := 82) (tgt := 182) hx hb dX1_readWork_100 (by decide) (by rw [c155]; decide) (by decide) ?_
      refine lv_aload_n hx hb dX1_readWork_182 rfl (lv_at hl 4 rfl) ?_
      refine lv_bipush (v := 8) hx hb dX1_readWork_183 (by decide) ?_
      obtain ⟨r156, hcr156, hsp⟩ := clE hsp
      refine call_z (w1 := [(a0, .inr (1, [.ref a1, .int g0_1, .int r156.2.1, .ref a2])), (a1, .inl (cI, 60, .inl f1)), (a2, .inr (3, [.int r144.1, .int r156.2.2, .int r144.2.2.1, .int r144.2.2.2.1, .ref a3]))]) (ws' := [(a0, .inr (1, [.ref a1, .int g0_1, .int r156.2.1, .ref a2])), (a1, .inl (cI, 60, .inl f1)), (a2, .inr (3, [.int r144.1, .int r156.2.2, .int r144.2.2.1, .int r144.2.2.2.1, .ref a3])), (a3, .inl (cI, 4, .inl r144.2.2.2.2))]) (va_runV (As := [.int 8]) (rest := []) ⟨hx, hb, hml, hown, hts⟩ (k_X1_readTarget l D cI cZ cC cS H.size a0 a1 a2 g0_1 x143 f1 (.int r144.1) r144.2.1 (.int r144.2.2.1) (.int r144.2.2.2.1) (.ref a3) 8 r156 hcr156) (cwV 1 hts gX1_readWork_X1_readTarget rfl rfl rfl nd_X1_readTarget ⟨Nat.le_of_ble_eq_true rfl, Nat.le_of_ble_eq_true rfl⟩) (PB.preV (ci := 1) (q0 := 0) hKU hP hD [0, 1, 2] rfl rfl rfl rfl) rfl rfl hl.1 rfl (lv_room (Nat.le_of_ble_eq_true rfl)) dX1_readWork_185 ⟨Nat.zero_le _, Nat.zero_le _⟩) hS hP hD hA [0, 1, 2] rfl rfl (by first | (simp only [wset, List.set_cons_zero, List.set_cons_succ]; done) | rfl) rfl (fun H locs hP hD hS hzr156 => ?_)
      refine lv_if_eq (tgt := 218) hx hb dX1_readWork_188 (by decide) (fun c157 => ?_) (fun c157 => ?_)
      · have hsp := itT hsp c157
        refine lv_iconst (v := 0) hx hb dX1_readWork_218 (by decide) ?_
        have hres := Option.some.inj hsp
        subst hres
        exact W.zret (v := 0) hx hb hr (zE (Or.inl rfl)) (fun t ht hW => ⟨⟨0, (), rfl, ⟨rfl, (Or.inl rfl)⟩, P_at ht hP⟩, hS.F ht⟩) hS.2.2 dX1_readWork_219
      have hsp := itF hsp c157
      refine lv_aload_n hx hb dX1_readWork_191 rfl (lv_at hl 4 rfl) ?_
      refine lv_bipush (v := 58) hx hb dX1_readWork_192 (by decide) ?_
      obtain ⟨r158, hcr158, hsp⟩ := clE hsp
      refine call_z (w1 := [(a0, .inr (1, [.ref a1, .int g0_1, .int r158.2, .ref a2])), (a1, .inl (cI, 60, .inl f1))]) (ws' := [(a0, .inr (1, [.ref a1, .int g0_1, .int r158.2, .ref a2])), (a1, .inl (cI, 60, .inl f1)), (a2, .inr (3, [.int r144.1, .int r156.2.2, .int r144.2.2.1, .int r144.2.2.2.1, .ref a3])), (a3, .inl (cI, 4, .inl r144.2.2.2.2))]) (va_runV (As := [.int 58]) (rest := []) ⟨hx, hb, hml, hown, hts⟩ (k_X1_readSign l D cI cZ cC cS H.size a0 a1 g0_1 r156.2.1 (.ref a2) f1 58 r158 hcr158) (cwV 1 hts gX1_readWork_X1_readSign rfl rfl rfl nd_X1_readSign ⟨Nat.le_of_ble_eq_true rfl, Nat.le_of_ble_eq_true rfl⟩) (PB.preV (ci := 1) (q0 := 0) hKU hP hD [0, 1] rfl rfl rfl rfl) rfl rfl hl.1 rfl (lv_room (Nat.le_of_ble_eq_true rfl)) dX1_readWork_194 ⟨Nat.zero_le _, Nat.zero_le _⟩) hS hP hD hA [0, 1] rfl rfl (by first | (simp only [wset, List.set_cons_zero, List.set_cons_succ]; done) | rfl) rfl (fun H locs hP hD hS hzr158 => ?_)
      refine lv_if_eq (tgt := 218) hx hb dX1_readWork_197 (by decide) (fun c159 => ?_) (fun c159 => ?_)
      · have hsp := itT hsp c159
        refine lv_iconst (v := 0) hx hb dX1_readWork_218 (by decide) ?_
        have hres := Option.some.inj hsp
        subst hres
        exact W.zret (v := 0) hx hb hr (zE (Or.inl rfl)) (fun t ht hW => ⟨⟨0, (), rfl, ⟨rfl, (Or.inl rfl)⟩, P_at ht hP⟩, hS.F ht⟩) hS.2.2 dX1_readWork_219
      have hsp := itF hsp c159
      refine lv_aload_n hx hb dX1_readWork_200 rfl (lv_at hl 4 rfl) ?_
      refine lv_aload_n hx hb dX1_readWork_201 rfl (lv_at hl 4 rfl) ?_
      refine lv_iconst (v := 1) hx hb dX1_readWork_202 (by decide) ?_
      refine lv_bipush (v := 9) hx hb dX1_readWork_203 (by decide) ?_
      obtain ⟨r160, hcr160, hsp⟩ := clE hsp
      refine call_i (w1 := [(a0, .inr (1, [.ref a1, .int g0_1, .int r160.2, .ref a2])), (a1, .inl (cI, 60, .inl f1))]) (ws' := [(a0, .inr (1, [.ref a1, .int g0_1, .int r160.2, .ref a2])), (a1, .inl (cI, 60, .inl f1)), (a2, .inr (3, [.int r144.1, .int r156.2.2, .int r144.2.2.1, .int r144.2.2.2.1, .ref a3])), (a3, .inl (cI, 4, .inl r144.2.2.2.2))]) (va_runV (As := [.int 1, .int 9]) (rest := [.ref a0]) ⟨hx, hb, hml, hown, hts⟩ (k_X1_readDigit l D cI cZ cC cS H.size a0 a1 g0_1 r158.2 (.ref a2) f1 1 9 r160 hcr160) (cwV 2 hts gX1_readWork_X1_readDigit rfl rfl rfl nd_X1_readDigit ⟨Nat.le_of_ble_eq_true rfl, Nat.le_of_ble_eq_true rfl⟩) (PB.preV (ci := 1) (q0 := 0) hKU hP hD [0, 1] rfl rfl rfl rfl) rfl rfl hl.1 rfl (lv_room (Nat.le_of_ble_eq_true rfl)) dX1_readWork_205 ⟨Nat.zero_le _, Nat.zero_le _⟩) hS hP hD hA [0, 1] rfl rfl (by first | (simp only [wset, List.set_cons_zero, List.set_cons_succ]; done) | rfl) rfl (fun H locs hP hD hS => ?_)
      obtain ⟨r161, hcr161, hsp⟩ := clE hsp
      refine call_z (w1 := [(a0, .inr (1, [.ref a1, .int g0_1, .int r160.2, .ref a2])), (a2, .inr (3, [.int r144.1, .int r156.2.2, .int r144.2.2.1, .int r161.2, .ref a3]))]) (ws' := [(a0, .inr (1, [.ref a1, .int g0_1, .int r160.2, .ref a2])), (a1, .inl (cI, 60, .inl f1)), (a2, .inr (3, [.int r144.1, .int r156.2.2, .int r144.2.2.1, .int r161.2, .ref a3])), (a3, .inl (cI, 4, .inl r144.2.2.2.2))]) (va_runV (As := [.int r160.1]) (rest := []) ⟨hx, hb, hml, hown, hts⟩ (k_X1_readDrops l D cI cZ cC cS H.size a0 a2 (.ref a1) (.int g0_1) (.int r160.2) (.int r144.1) (.int r156.2.2) (.int r144.2.2.1) r144.2.2.2.1 (.ref a3) r160.1 r161 hcr161) (cwV 1 hts gX1_readWork_X1_readDrops rfl rfl rfl nd_X1_readDrops ⟨Nat.le_of_ble_eq_true rfl, Nat.le_of_ble_eq_true rfl⟩) (PB.preV (ci := 1) (q0 := 0) hKU hP hD [0, 2] rfl rfl rfl rfl) rfl rfl hl.1 rfl (lv_room (Nat.le_of_ble_eq_true rfl)) dX1_readWork_208 ⟨Nat.zero_le _, Nat.zero_le _⟩) hS hP hD hA [0, 2] rfl rfl (by first | (simp only [wset, List.set_cons_zero, List.set_cons_succ]; done) | rfl) rfl (fun H locs hP hD hS hzr161 => ?_)
      refine lv_if_eq (tgt := 218) hx hb dX1_readWork_211 (by decide) (fun c162 => ?_) (fun c162 => ?_)
      · have hsp := itT hsp c162
        refine lv_iconst (v := 0) hx hb dX1_readWork_218 (by decide) ?_
        have hres := Option.some.inj hsp
        subst hres
        exact W.zret (v := 0) hx hb hr (zE (Or.inl rfl)) (fun t ht hW => ⟨⟨0, (), rfl, ⟨rfl, (Or.inl rfl)⟩, P_at ht hP⟩, hS.F ht⟩) hS.2.2 dX1_readWork_219
      have hsp := itF hsp c162
      refine lv_iconst (v := 1) hx hb dX1_readWork_214 (by decide) ?_
      refine lv_goto (tgt := 219) hx hb dX1_readWork_215 (by decide) ?_
      have hres := Option.some.inj hsp
      subst hres
      exact W.zret (v := 1) hx hb hr (zE (Or.inr rfl)) (fun t ht hW => ⟨⟨1, (), rfl, ⟨rfl, (Or.inr rfl)⟩, P_at ht hP⟩, hS.F ht⟩) hS.2.2 dX1_readWork_219
    have hsp := itF hsp c155
    by_cases c163 : r2 = 112
    · have hsp := itT hsp c163
      refine lv_lookup (off := 120) (tgt := 220) hx hb dX1_readWork_100 (by decide) (by rw [c163]; decide) (by decide) ?_
      refine lv_aload_n hx hb dX1_readWork_220 rfl (lv_at hl 4 rfl) ?_
      refine lv_bipush (v := 6) hx hb dX1_readWork_221 (by decide) ?_
      obtain ⟨r164, hcr164, hsp⟩ := clE hsp
      refine call_z (w1 := [(a0, .inr (1, [.ref a1, .int g0_1, .int r164.2.1, .ref a2])), (a1, .inl (cI, 60, .inl f1)), (a2, .inr (3, [.int r144.1, .int r164.2.2, .int r144.2.2.1, .int r144.2.2.2.1, .ref a3]))]) (ws' := [(a0, .inr (1, [.ref a1, .int g0_1, .int r164.2.1, .ref a2])), (a1, .inl (cI, 60, .inl f1)), (a2, .inr (3, [.int r144.1, .int r164.2.2, .int r144.2.2.1, .int r144.2.2.2.1, .ref a3])), (a3, .inl (cI, 4, .inl r144.2.2.2.2))]) (va_runV (As := [.int 6]) (rest := []) ⟨hx, hb, hml, hown, hts⟩ (k_X1_readTarget l D cI cZ cC cS H.size a0 a1 a2 g0_1 x143 f1 (.int r144.1) r144.2.1 (.int r144.2.2.1) (.int r144.2.2.2.1) (.ref a3) 6 r164 hcr164) (cwV 1 hts gX1_readWork_X1_readTarget rfl rfl rfl nd_X1_readTarget ⟨Nat.le_of_ble_eq_true rfl, Nat.le_of_ble_eq_true rfl⟩) (PB.preV (ci := 1) (q0 := 0) hKU hP hD [0, 1, 2] rfl rfl rfl rfl) rfl rfl hl.1 rfl (lv_room (Nat.le_of_ble_eq_true rfl)) dX1_readWork_223 ⟨Nat.zero_le _, Nat.zero_le _⟩) hS hP hD hA [0, 1, 2] rfl rfl (by first | (simp only [wset, List.set_cons_zero, List.set_cons_succ]; done) | rfl) rfl (fun H locs hP hD hS hzr164 => ?_)
      have hres := Option.some.inj hsp
      subst hres
      exact W.zret (v := r164.1) hx hb hr (zE hzr164) (fun t ht hW => ⟨⟨r164.1, (), rfl, ⟨rfl, hzr164⟩, P_at ht hP⟩, hS.F ht⟩) hS.2.2 dX1_readWork_226
    have hsp := itF hsp c163
    refine lv_lookup (off := 127) (tgt := 227) hx hb dX1_readWork_100 (by decide) ((lv_osw c145 (by decide)).trans ((lv_osw c147 (by decide)).trans ((lv_osw c155 (by decide)).trans ((lv_osw c163 (by decide)).trans rfl)))) (by decide) ?_
    refine lv_iconst (v := 1) hx hb dX1_readWork_227 (by decide) ?_
    have hres := Option.some.inj hsp
    subst hres
    exact W.zret (v := 1) hx hb hr (zE (Or.inr rfl)) (fun t ht hW => ⟨⟨1, (), rfl, ⟨rfl, (Or.inr rfl)⟩, P_at ht hP⟩, hS.F ht⟩) hS.2.2 dX1_readWork_228
  have hsp := itF hsp c3
  refine lv_iload_n hx hb dX1_readWork_19 rfl (lv_at hl 0 rfl) ?_
  refine lv_bipush (v := 33) hx hb dX1_readWork_20 (by decide) ?_
  refine lv_icmp_eq (tgt := 31) hx hb dX1_readWork_22 (by decide) (fun c165 => ?_) (fun c165 => ?_)
  · have hsp := itT hsp c165
    refine lv_iconst (v := 1) hx hb dX1_readWork_31 (by decide) ?_
    refine lv_goto (tgt := 36) hx hb dX1_readWork_32 (by decide) ?_
    refine lv_istore_n (lv' := [(3, .int 1), (2, .int r2), (1, .int r1.1), (0, .ref a0)]) hx hb dX1_readWork_36 rfl hl (by decide) rfl (fun ls hl => ?_)
    refine lv_iload_n hx hb dX1_readWork_37 rfl (lv_at hl 1 rfl) ?_
    refine lv_bipush (v := 100) hx hb dX1_readWork_38 (by decide) ?_
    refine lv_icmp_eq (tgt := 55) hx hb dX1_readWork_40 (by decide) (fun c166 => ?_) (fun c166 => ?_)
    · have hsp := itT hsp c166
      refine lv_iconst (v := 1) hx hb dX1_readWork_55 (by decide) ?_
      refine lv_goto (tgt := 60) hx hb dX1_readWork_56 (by decide) ?_
      refine lv_istore (lv' := [(4, .int 1), (3, .int 1), (2, .int r2), (1, .int r1.1), (0, .ref a0)]) hx hb dX1_readWork_60 hl (by decide) rfl (fun ls hl => ?_)
      refine lv_iload_n hx hb dX1_readWork_62 rfl (lv_at hl 3 rfl) ?_
      refine lv_if_lt (tgt := 73) hx hb dX1_readWork_63 (by decide) (fun c167 => ?_) (fun c167 => ?_)
      · have hsp := itT hsp c167
        refine lv_iload hx hb dX1_readWork_73 (lv_at hl 0 rfl) ?_
        refine lv_if_ne (tgt := 80) hx hb dX1_readWork_75 (by decide) (fun _ => ?_) (fun hc => absurd hc (by decide))
        refine lv_aload_n hx hb dX1_readWork_80 rfl (lv_at hl 4 rfl) ?_
        refine lv_dup hx hb dX1_readWork_81 rfl ?_
        refine va_get (D := D) (ci := 1) (v := .int r1.2) (C := RX1) (T := TX1) (N := 4) hx hb hts hi_X1 hown hK hP 0 rfl rfl 2 (by decide) hf_19 (fun _ h9 => h9) rfl dX1_readWork_82 ?_
        refine lv_iconst (v := 1) hx hb dX1_readWork_85 (by decide) ?_
        refine lv_iadd hx hb dX1_readWork_86 ?_
        obtain ⟨x168, ex168, hsp⟩ := nmE hsp
        refine r_top ex168 ?_
        refine va_put (D := D) (ci := 1) (v := .int x168) (ty := .int) (C := RX1) (T := TX1) (N := 4) hx hb hts hi_X1 tyX1 tyX1_ok nmX1 hown hK hP hD hS 0 rfl rfl 2 (by decide) hf_19 (fun _ h9 => h9) rfl (by decide +kernel) rfl rfl (Nat.le_of_ble_eq_true rfl) dX1_readWork_87 (fun H locs hP hD hS => ?_)
        have hP : va_P D vwCl [(a0, .inr (1, [.ref a1, .int g0_1, .int x168, .ref a2])), (a1, .inl (cI, 60, .inl f1)), (a2, .inr (3, [.int g2_0, .int g2_1, .int g2_2, .int g2_3, .ref a3])), (a3, .inl (cI, 4, .inl f3))] H := hP
        have hD : va_D A [(a0, .inr (1, [.ref a1, .int g0_1, .int x168, .ref a2])), (a1, .inl (cI, 60, .inl f1)), (a2, .inr (3, [.int g2_0, .int g2_1, .int g2_2, .int g2_3, .ref a3])), (a3, .inl (cI, 4, .inl f3))] := hD
        refine lv_aload_n hx hb dX1_readWork_90 rfl (lv_at hl 4 rfl) ?_
        refine va_get (D := D) (ci := 1) (v := .ref a2) (C := RX1) (T := TX1) (N := 4) hx hb hts hi_X1 hown hK hP 0 rfl rfl 3 (by decide) hf_25 (fun _ h9 => h9) rfl dX1_readWork_91 ?_
        refine lv_iload_n hx hb dX1_readWork_94 rfl (lv_at hl 2 rfl) ?_
        refine lv_iload_n hx hb dX1_readWork_95 rfl (lv_at hl 3 rfl) ?_
        obtain ⟨r169, hcr169, hsp⟩ := clE hsp
        refine call_v (w1 := [(a2, .inr (3, [.int r169.1, .int r169.2.1, .int r169.2.2.1, .int r169.2.2.2.1, .ref a3])), (a3, .inl (cI, 4, .inl r169.2.2.2.2))]) (ws' := [(a0, .inr (1, [.ref a1, .int g0_1, .int x168, .ref a2])), (a1, .inl (cI, 60, .inl f1)), (a2, .inr (3, [.int r169.1, .int r169.2.1, .int r169.2.2.1, .int r169.2.2.2.1, .ref a3])), (a3, .inl (cI, 4, .inl r169.2.2.2.2))]) (va_runV (As := [.int r2, .int r1.1]) (rest := []) ⟨hx, hb, hml, hown, hts⟩ (k_X3_begin l D cI cZ cC cS H.size a2 a3 g2_0 g2_1 g2_2 g2_3 f3 r2 r1.1 r169 hcr169) (cwV 2 hts gX1_readWork_X3_begin rfl rfl rfl nd_X3_begin ⟨Nat.le_of_ble_eq_true rfl, Nat.le_of_ble_eq_true rfl⟩) (PB.preV (ci := 3) (q0 := 2) hKU hP hD [2, 3] rfl rfl rfl rfl) rfl rfl hl.1 rfl (lv_room (Nat.le_of_ble_eq_true rfl)) dX1_readWork_96 ⟨Nat.zero_le _, Nat.zero_le _⟩) hS hP hD hA [2, 3] rfl rfl (by first | (simp only [wset, List.set_cons_zero, List.set_cons_succ]; done) | rfl) rfl (fun H locs hP hD hS => ?_)
        refine lv_iload_n hx hb dX1_readWork_99 rfl (lv_at hl 2 rfl) ?_
        by_cases c170 : r2 = 43
        · have hsp := itT hsp c170
          refine lv_lookup (off := 44) (tgt := 144) hx hb dX1_readWork_100 (by decide) (by rw [c170]; decide) (by decide) ?_
          refine lv_aload_n hx hb dX1_readWork_144 rfl (lv_at hl 4 rfl) ?_
          obtain ⟨r171, hcr171, hsp⟩ := clE hsp
          refine call_z (w1 := [(a0, .inr (1, [.ref a1, .int g0_1, .int r171.2.1, .ref a2])), (a1, .inl (cI, 60, .inl f1)), (a2, .inr (3, [.int r169.1, .int r169.2.1, .int r169.2.2.1, .int r169.2.2.2.1, .ref a3])), (a3, .inl (cI, 4, .inl r171.2.2))]) (ws' := [(a0, .inr (1, [.ref a1, .int g0_1, .int r171.2.1, .ref a2])), (a1, .inl (cI, 60, .inl f1)), (a2, .inr (3, [.int r169.1, .int r169.2.1, .int r169.2.2.1, .int r169.2.2.2.1, .ref a3])), (a3, .inl (cI, 4, .inl r171.2.2))]) (va_runV (As := []) (rest := []) ⟨hx, hb, hml, hown, hts⟩ (k_X1_readKinds l D cI cZ cC cS H.size a0 a1 a2 a3 g0_1 x168 f1 (.int r169.1) (.int r169.2.1) (.int r169.2.2.1) (.int r169.2.2.2.1) r169.2.2.2.2 r171 hcr171) (cwV 0 hts gX1_readWork_X1_readKinds rfl rfl rfl nd_X1_readKinds ⟨Nat.le_of_ble_eq_true rfl, Nat.le_of_ble_eq_true rfl⟩) (PB.preV (ci := 1) (q0 := 0) hKU hP hD [0, 1, 2, 3] rfl rfl rfl rfl) rfl rfl hl.1 rfl (lv_room (Nat.le_of_ble_eq_true rfl)) dX1_readWork_145 ⟨Nat.zero_le _, Nat.zero_le _⟩) hS hP hD hA [0, 1, 2, 3] rfl rfl (by first | (simp only [wset, List.set_cons_zero, List.set_cons_succ]; done) | rfl) rfl (fun H locs hP hD hS hzr171 => ?_)
          have hres := Option.some.inj hsp
          subst hres
          exact W.zret (v := r171.1) hx hb hr (zE hzr171) (fun t ht hW => ⟨⟨r171.1, (), rfl, ⟨rfl, hzr171⟩, P_at ht hP⟩, hS.F ht⟩) hS.2.2 dX1_readWork_148
        have hsp := itF hsp c170
        by_cases c172 : r2 = 62
        · have hsp := itT hsp c172
          refine lv_lookup (off := 49) (tgt := 149) hx hb dX1_readWork_100 (by decide) (by rw [c172]; decide) (by decide) ?_
          refine lv_aload_n hx hb dX1_readWork_149 rfl (lv_at hl 4 rfl) ?_
          obtain ⟨r173, hcr173, hsp⟩ := clE hsp
          refine call_z (w1 := [(a0, .inr (1, [.ref a1, .int g0_1, .int r173.2.1, .ref a2])), (a1, .inl (cI, 60, .inl f1)), (a2, .inr (3, [.int r169.1, .int r169.2.1, .int r173.2.2, .int r169.2.2.2.1, .ref a3]))]) (ws' := [(a0, .inr (1, [.ref a1, .int g0_1, .int r173.2.1, .ref a2])), (a1, .inl (cI, 60, .inl f1)), (a2, .inr (3, [.int r169.1, .int r169.2.1, .int r173.2.2, .int r169.2.2.2.1, .ref a3])), (a3, .inl (cI, 4, .inl r169.2.2.2.2))]) (va_runV (As := []) (rest := []) ⟨hx, hb, hml, hown, hts⟩ (k_X1_readOther l D cI cZ cC cS H.size a0 a1 a2 g0_1 x168 f1 (.int r169.1) (.int r169.2.1) r169.2.2.1 (.int r169.2.2.2.1) (.ref a3) r173 hcr173) (cwV 0 hts gX1_readWork_X1_readOther rfl rfl rfl nd_X1_readOther ⟨Nat.le_of_ble_eq_true rfl, Nat.le_of_ble_eq_true rfl⟩) (PB.preV (ci := 1) (q0 := 0) hKU hP hD [0, 1, 2] rfl rfl rfl rfl) rfl rfl hl.1 rfl (lv_room (Nat.le_of_ble_eq_true rfl)) dX1_readWork_150 ⟨Nat.zero_le _, Nat.zero_le _⟩) hS hP hD hA [0, 1, 2] rfl rfl (by first | (simp only [wset, List.set_cons_zero, List.set_cons_succ]; done) | rfl) rfl (fun H locs hP hD hS hzr173 => ?_)
          refine lv_if_eq (tgt := 180) hx hb dX1_readWork_153 (by decide) (fun c174 => ?_) (fun c174 => ?_)
          · have hsp := itT hsp c174
            refine lv_iconst (v := 0) hx hb dX1_readWork_180 (by decide) ?_
            have hres := Option.some.inj hsp
            subst hres
            exact W.zret (v := 0) hx hb hr (zE (Or.inl rfl)) (fun t ht hW => ⟨⟨0, (), rfl, ⟨rfl, (Or.inl rfl)⟩, P_at ht hP⟩, hS.F ht⟩) hS.2.2 dX1_readWork_181
          have hsp := itF hsp c174
          refine lv_aload_n hx hb dX1_readWork_156 rfl (lv_at hl 4 rfl) ?_
          refine lv_bipush (v := 58) hx hb dX1_readWork_157 (by decide) ?_
          obtain ⟨r175, hcr175, hsp⟩ := clE hsp
          refine call_z (w1 := [(a0, .inr (1, [.ref a1, .int g0_1, .int r175.2, .ref a2])), (a1, .inl (cI, 60, .inl f1))]) (ws' := [(a0, .inr (1, [.ref a1, .int g0_1, .int r175.2, .ref a2])), (a1, .inl (cI, 60, .inl f1)), (a2, .inr (3, [.int r169.1, .int r169.2.1, .int r173.2.2, .int r169.2.2.2.1, .ref a3])), (a3, .inl (cI, 4, .inl r169.2.2.2.2))]) (va_runV (As := [.int 58]) (rest := []) ⟨hx, hb, hml, hown, hts⟩ (k_X1_readSign l D cI cZ cC cS H.size a0 a1 g0_1 r173.2.1 (.ref a2) f1 58 r175 hcr175) (cwV 1 hts gX1_readWork_X1_readSign rfl rfl rfl nd_X1_readSign ⟨Nat.le_of_ble_eq_true rfl, Nat.le_of_ble_eq_true rfl⟩) (PB.preV (ci := 1) (q0 := 0) hKU hP hD [0, 1] rfl rfl rfl rfl) rfl rfl hl.1 rfl (lv_room (Nat.le_of_ble_eq_true rfl)) dX1_readWork_159 ⟨Nat.zero_le _, Nat.zero_le _⟩) hS hP hD hA [0, 1] rfl rfl (by first | (simp only [wset, List.set_cons_zero, List.set_cons_succ]; done) | rfl) rfl (fun H locs hP hD hS hzr175 => ?_)
          refine lv_if_eq (tgt := 180) hx hb dX1_readWork_162 (by decide) (fun c176 => ?_) (fun c176 => ?_)
          · have hsp := itT hsp c176
            refine lv_iconst (v := 0) hx hb dX1_readWork_180 (by decide) ?_
            have hres := Option.some.inj hsp
            subst hres
            exact W.zret (v := 0) hx hb hr (zE (Or.inl rfl)) (fun t ht hW => ⟨⟨0, (), rfl, ⟨rfl, (Or.inl rfl)⟩, P_at ht hP⟩, hS.F ht⟩) hS.2.2 dX1_readWork_181
          have hsp := itF hsp c176
          refine lv_aload_n hx hb dX1_readWork_165 rfl (lv_at hl 4 rfl) ?_
          refine lv_aload_n hx hb dX1_readWork_166 rfl (lv_at hl 4 rfl) ?_
          obtain ⟨r177, hcr177, hsp⟩ := clE hsp
          refine call_i (w1 := [(a0, .inr (1, [.ref a1, .int g0_1, .int r177.2, .ref a2])), (a1, .inl (cI, 60, .inl f1))]) (ws' := [(a0, .inr (1, [.ref a1, .int g0_1, .int r177.2, .ref a2])), (a1, .inl (cI, 60, .inl f1)), (a2, .inr (3, [.int r169.1, .int r169.2.1, .int r173.2.2, .int r169.2.2.2.1, .ref a3])), (a3, .inl (cI, 4, .inl r169.2.2.2.2))]) (va_runV (As := []) (rest := [.ref a0]) ⟨hx, hb, hml, hown, hts⟩ (k_X1_readNumber l D cI cZ cC cS H.size a0 a1 g0_1 r175.2 (.ref a2) f1 r177 hcr177) (cwV 0 hts gX1_readWork_X1_readNumber rfl rfl rfl nd_X1_readNumber ⟨Nat.le_of_ble_eq_true rfl, Nat.le_of_ble_eq_true rfl⟩) (PB.preV (ci := 1) (q0 := 0) hKU hP hD [0, 1] rfl rfl rfl rfl) rfl rfl hl.1 rfl (lv_room (Nat.le_of_ble_eq_true rfl)) dX1_readWork_167 ⟨Nat.zero_le _, Nat.zero_le _⟩) hS hP hD hA [0, 1] rfl rfl (by first | (simp only [wset, List.set_cons_zero, List.set_cons_succ]; done) | rfl) rfl (fun H locs hP hD hS => ?_)
          obtain ⟨r178, hcr178, hsp⟩ := clE hsp
          refine call_z (w1 := [(a0, .inr (1, [.ref a1, .int g0_1, .int r177.2, .ref a2])), (a2, .inr (3, [.int r169.1, .int r169.2.1, .int r173.2.2, .int r178.2, .ref a3]))]) (ws' := [(a0, .inr (1, [.ref a1, .int g0_1, .int r177.2, .ref a2])), (a1, .inl (cI, 60, .inl f1)), (a2, .inr (3, [.int r169.1, .int r169.2.1, .int r173.2.2, .int r178.2, .ref a3])), (a3, .inl (cI, 4, .inl r169.2.2.2.2))]) (va_runV (As := [.int r177.1]) (rest := []) ⟨hx, hb, hml, hown, hts⟩ (k_X1_readDrops l D cI cZ cC cS H.size a0 a2 (.ref a1) (.int g0_1) (.int r177.2) (.int r169.1) (.int r169.2.1) (.int r173.2.2) r169.2.2.2.1 (.ref a3) r177.1 r178 hcr178) (cwV 1 hts gX1_readWork_X1_readDrops rfl rfl rfl nd_X1_readDrops ⟨Nat.le_of_ble_eq_true rfl, Nat.le_of_ble_eq_true rfl⟩) (PB.preV (ci := 1) (q0 := 0) hKU hP hD [0, 2] rfl rfl rfl rfl) rfl rfl hl.1 rfl (lv_room (Nat.le_of_ble_eq_true rfl)) dX1_readWork_170 ⟨Nat.zero_le _, Nat.zero_le _⟩) hS hP hD hA [0, 2] rfl rfl (by first | (simp only [wset, List.set_cons_zero, List.set_cons_succ]; done) | rfl) rfl (fun H locs hP hD hS hzr178 => ?_)
          refine lv_if_eq (tgt := 180) hx hb dX1_readWork_173 (by decide) (fun c179 => ?_) (fun c179 => ?_)
          · have hsp := itT hsp c179
            refine lv_iconst (v := 0) hx hb dX1_readWork_180 (by decide) ?_
            have hres := Option.some.inj hsp
            subst hres
            exact W.zret (v := 0) hx hb hr (zE (Or.inl rfl)) (fun t ht hW => ⟨⟨0, (), rfl, ⟨rfl, (Or.inl rfl)⟩, P_at ht hP⟩, hS.F ht⟩) hS.2.2 dX1_readWork_181
          have hsp := itF hsp c179
          refine lv_iconst (v := 1) hx hb dX1_readWork_176 (by decide) ?_
          refine lv_goto (tgt := 181) hx hb dX1_readWork_177 (by decide) ?_
          have hres := Option.some.inj hsp
          subst hres
          exact W.zret (v := 1) hx hb hr (zE (Or.inr rfl)) (fun t ht hW => ⟨⟨1, (), rfl, ⟨rfl, (Or.inr rfl)⟩, P_at ht hP⟩, hS.F ht⟩) hS.2.2 dX1_readWork_181
        have hsp := itF hsp c172
        by_cases c180 : r2 = 100
        · have hsp := itT hsp c180
          refine lv_lookup (off := 82) (tgt := 182) hx hb dX1_readWork_100 (by decide) (by rw [c180]; decide) (by decide) ?_
          refine lv_aload_n hx hb dX1_readWork_182 rfl (lv_at hl 4 rfl) ?_
          refine lv_bipush (v := 8) hx hb dX1_readWork_183 (by decide) ?_
          obtain ⟨r181, hcr181, hsp⟩ := clE hsp
          refine call_z (w1 := [(a0, .inr (1, [.ref a1, .int g0_1, .int r181.2.1, .ref a2])), (a1, .inl (cI, 60, .inl f1)), (a2, .inr (3, [.int r169.1, .int r181.2.2, .int r169.2.2.1, .int r169.2.2.2.1, .ref a3]))]) (ws' := [(a0, .inr (1, [.ref a1, .int g0_1, .int r181.2.1, .ref a2])), (a1, .inl (cI, 60, .inl f1)), (a2, .inr (3, [.int r169.1, .int r181.2.2, .int r169.2.2.1, .int r169.2.2.2.1, .ref a3])), (a3, .inl (cI, 4, .inl r169.2.2.2.2))]) (va_runV (As := [.int 8]) (rest := []) ⟨hx, hb, hml, hown, hts⟩ (k_X1_readTarget l D cI cZ cC cS H.size a0 a1 a2 g0_1 x168 f1 (.int r169.1) r169.2.1 (.int r169.2.2.1) (.int r169.2.2.2.1) (.ref a3) 8 r181 hcr181) (cwV 1 hts gX1_readWork_X1_readTarget rfl rfl rfl nd_X1_readTarget ⟨Nat.le_of_ble_eq_true rfl, Nat.le_of_ble_eq_true rfl⟩) (PB.preV (ci := 1) (q0 := 0) hKU hP hD [0, 1, 2] rfl rfl rfl rfl) rfl rfl hl.1 rfl (lv_room (Nat.le_of_ble_eq_true rfl)) dX1_readWork_185 ⟨Nat.zero_le _, Nat.zero_le _⟩) hS hP hD hA [0, 1, 2] rfl rfl (by first | (simp only [wset, List.set_cons_zero, List.set_cons_succ]; done) | rfl) rfl (fun H locs hP hD hS hzr181 => ?_)
          refine lv_if_eq (tgt := 218) hx hb dX1_readWork_188 (by decide) (fun c182 => ?_) (fun c182 => ?_)
          · have hsp := itT hsp c182
            refine lv_iconst (v := 0) hx hb dX1_readWork_218 (by decide) ?_
            have hres := Option.some.inj hsp
            subst hres
            exact W.zret (v := 0) hx hb hr (zE (Or.inl rfl)) (fun t ht hW => ⟨⟨0, (), rfl, ⟨rfl, (Or.inl rfl)⟩, P_at ht hP⟩, hS.F ht⟩) hS.2.2 dX1_readWork_219
          have hsp := itF hsp c182
          refine lv_aload_n hx hb dX1_readWork_191 rfl (lv_at hl 4 rfl) ?_
          refine lv_bipush (v := 58) hx hb dX1_readWork_192 (by decide) ?_
          obtain ⟨r183, hcr183, hsp⟩ := clE hsp
          refine call_z (w1 := [(a0, .inr (1, [.ref a1, .int g0_1, .int r183.2, .ref a2])), (a1, .inl (cI, 60, .inl f1))]) (ws' := [(a0, .inr (1, [.ref a1, .int g0_1, .int r183.2, .ref a2])), (a1, .inl (cI, 60, .inl f1)), (a2, .inr (3, [.int r169.1, .int r181.2.2, .int r169.2.2.1, .int r169.2.2.2.1, .ref a3])), (a3, .inl (cI, 4, .inl r169.2.2.2.2))]) (va_runV (As := [.int 58]) (rest := []) ⟨hx, hb, hml, hown, hts⟩ (k_X1_readSign l D cI cZ cC cS H.size a0 a1 g0_1 r181.2.1 (.ref a2) f1 58 r183 hcr183) (cwV 1 hts gX1_readWork_X1_readSign rfl rfl rfl nd_X1_readSign ⟨Nat.le_of_ble_eq_true rfl, Nat.le_of_ble_eq_true rfl⟩) (PB.preV (ci := 1) (q0 := 0) hKU hP hD [0, 1] rfl rfl rfl rfl) rfl rfl hl.1 rfl (lv_room (Nat.le_of_ble_eq_true rfl)) dX1_readWork_194 ⟨Nat.zero_le _, Nat.zero_le _⟩) hS hP hD hA [0, 1] rfl rfl (by first | (simp only [wset, List.set_cons_zero, List.set_cons_succ]; done) | rfl) rfl (fun H locs hP hD hS hzr183 => ?_)
          refine lv_if_eq (tgt := 218) hx hb dX1_readWork_197 (by decide) (fun c184 => ?_) (fun c184 => ?_)
          · have hsp := itT hsp c184
            refine lv_iconst (v := 0) hx hb dX1_readWork_218 (by decide) ?_
            have hres := Option.some.inj hsp
            subst hres
            exact W.zret (v := 0) hx hb hr (zE (Or.inl rfl)) (fun t ht hW => ⟨⟨0, (), rfl, ⟨rfl, (Or.inl rfl)⟩, P_at ht hP⟩, hS.F ht⟩) hS.2.2 dX1_readWork_219
          have hsp := itF hsp c184
          refine lv_aload_n hx hb dX1_readWork_200 rfl (lv_at hl 4 rfl) ?_
          refine lv_aload_n hx hb dX1_readWork_201 rfl (lv_at hl 4 rfl) ?_
          refine lv_iconst (v := 1) hx hb dX1_readWork_202 (by decide) ?_
          refine lv_bipush (v := 9) hx hb dX1_readWork_203 (by decide) ?_
          obtain ⟨r185, hcr185, hsp⟩ := clE hsp
          refine call_i (w1 := [(a0, .inr (1, [.ref a1, .int g0_1, .int r185.2, .ref a2])), (a1, .inl (cI, 60, .inl f1))]) (ws' := [(a0, .inr (1, [.ref a1, .int g0_1, .int r185.2, .ref a2])), (a1, .inl (cI, 60, .inl f1)), (a2, .inr (3, [.int r169.1, .int r181.2.2, .int r169.2.2.1, .int r169.2.2.2.1, .ref a3])), (a3, .inl (cI, 4, .inl r169.2.2.2.2))]) (va_runV (As := [.int 1, .int 9]) (rest := [.ref a0]) ⟨hx, hb, hml, hown, hts⟩ (k_X1_readDigit l D cI cZ cC cS H.size a0 a1 g0_1 r183.2 (.ref a2) f1 1 9 r185 hcr185) (cwV 2 hts gX1_readWork_X1_readDigit rfl rfl rfl nd_X1_readDigit ⟨Nat.le_of_ble_eq_true rfl, Nat.le_of_ble_eq_true rfl⟩) (PB.preV (ci := 1) (q0 := 0) hKU hP hD [0, 1] rfl rfl rfl rfl) rfl rfl hl.1 rfl (lv_room (Nat.le_of_ble_eq_true rfl)) dX1_readWork_205 ⟨Nat.zero_le _, Nat.zero_le _⟩) hS hP hD hA [0, 1] rfl rfl (by first | (simp only [wset, List.set_cons_zero, List.set_cons_succ]; done) | rfl) rfl (fun H locs hP hD hS => ?_)
          obtain ⟨r186, hcr186, hsp⟩ := clE hsp
          refine call_z (w1 := [(a0, .inr (1, [.ref a1, .int g0_1, .int r185.2, .ref a2])), (a2, .inr (3, [.int r169.1, .int r181.2.2, .int r169.2.2.1, .int r186.2, .ref a3]))]) (ws' := [(a0, .inr (1, [.ref a1, .int g0_1, .int r185.2, .ref a2])), (a1, .inl (cI, 60, .inl f1)), (a2, .inr (3, [.int r169.1, .int r181.2.2, .int r169.2.2.1, .int r186.2, .ref a3])), (a3, .inl (cI, 4, .inl r169.2.2.2.2))]) (va_runV (As := [.int r185.1]) (rest := []) ⟨hx, hb, hml, hown, hts⟩ (k_X1_readDrops l D cI cZ cC cS H.size a0 a2 (.ref a1) (.int g0_1) (.int r185.2) (.int r169.1) (.int r181.2.2) (.int r169.2.2.1) r169.2.2.2.1 (.ref a3) r185.1 r186 hcr186) (cwV 1 hts gX1_readWork_X1_readDrops rfl rfl rfl nd_X1_readDrops ⟨Nat.le_of_ble_eq_true rfl, Nat.le_of_ble_eq_true rfl⟩) (PB.preV (ci := 1) (q0 := 0) hKU hP hD [0, 2] rfl rfl rfl rfl) rfl rfl hl.1 rfl (lv_room (Nat.le_of_ble_eq_true rfl)) dX1_readWork_208 ⟨Nat.zero_le _, Nat.zero_le _⟩) hS hP hD hA [0, 2] rfl rfl (by first | (simp only [wset, List.set_cons_zero, List.set_cons_succ]; done) | rfl) rfl (fun H locs hP hD hS hzr186 => ?_)
          refine lv_if_eq (tgt := 218) hx hb dX1_readWork_211 (by decide) (fun c187 => ?_) (fun c187 => ?_)
          · have hsp := itT hsp c187
            refine lv_iconst (v := 0) hx hb dX1_readWork_218 (by decide) ?_
            have hres := Option.some.inj hsp
            subst hres
            exact W.zret (v := 0) hx hb hr (zE (Or.inl rfl)) (fun t ht hW => ⟨⟨0, (), rfl, ⟨rfl, (Or.inl rfl)⟩, P_at ht hP⟩, hS.F ht⟩) hS.2.2 dX1_readWork_219
          have hsp := itF hsp c187
          refine lv_iconst (v := 1) hx hb dX1_readWork_214 (by decide) ?_
          refine lv_goto (tgt := 219) hx hb dX1_readWork_215 (by decide) ?_
          have hres := Option.some.inj hsp
          subst hres
          exact W.zret (v := 1) hx hb hr (zE (Or.inr rfl)) (fun t ht hW => ⟨⟨1, (), rfl, ⟨rfl, (Or.inr rfl)⟩, P_at ht hP⟩, hS.F ht⟩) hS.2.2 dX1_readWork_219
        have hsp := itF hsp c180
        by_cases c188 : r2 = 112
        · have hsp := itT hsp c188
          refine lv_lookup (off := 120) (tgt := 220) hx hb dX1_readWork_100 (by decide) (by rw [c188]; decide) (by decide) ?_
          refine lv_aload_n hx hb dX1_readWork_220 rfl (lv_at hl 4 rfl) ?_
          refine lv_bipush (v := 6) hx hb dX1_readWork_221 (by decide) ?_
          obtain ⟨r189, hcr189, hsp⟩ := clE hsp
          refine call_z (w1 := [(a0, .inr (1, [.ref a1, .int g0_1, .int r189.2.1, .ref a2])), (a1, .inl (cI, 60, .inl f1)), (a2, .inr (3, [.int r169.1, .int r189.2.2, .int r169.2.2.1, .int r169.2.2.2.1, .ref a3]))]) (ws' := [(a0, .inr (1, [.ref a1, .int g0_1, .int r189.2.1, .ref a2])), (a1, .inl (cI, 60, .inl f1)), (a2, .inr (3, [.int r169.1, .int r189.2.2, .int r169.2.2.1, .int r169.2.2.2.1, .ref a3])), (a3, .inl (cI, 4, .inl r169.2.2.2.2))]) (va_runV (As := [.int 6]) (rest := []) ⟨hx, hb, hml, hown, hts⟩ (k_X1_readTarget l D cI cZ cC cS H.size a0 a1 a2 g0_1 x168 f1 (.int r169.1) r169.2.1 (.int r169.2.2.1) (.int r169.2.2.2.1) (.ref a3) 6 r189 hcr189) (cwV 1 hts gX1_readWork_X1_readTarget rfl rfl rfl nd_X1_readTarget ⟨Nat.le_of_ble_eq_true rfl, Nat.le_of_ble_eq_true rfl⟩) (PB.preV (ci := 1) (q0 := 0) hKU hP hD [0, 1, 2] rfl rfl rfl rfl) rfl rfl hl.1 rfl (lv_room (Nat.le_of_ble_eq_true rfl)) dX1_readWork_223 ⟨Nat.zero_le _, Nat.zero_le _⟩) hS hP hD hA [0, 1, 2] rfl rfl (by first | (simp only [wset, List.set_cons_zero, List.set_cons_succ]; done) | rfl) rfl (fun H locs hP hD hS hzr189 => ?_)
          have hres := Option.some.inj hsp
          subst hres
          exact W.zret (v := r189.1) hx hb hr (zE hzr189) (fun t ht hW => ⟨⟨r189.1, (), rfl, ⟨rfl, hzr189⟩, P_at ht hP⟩, hS.F ht⟩) hS.2.2 dX1_readWork_226
        have hsp := itF hsp c188
        refine lv_lookup (off := 127) (tgt := 227) hx hb dX1_readWork_100 (by decide) ((lv_osw c170 (by decide)).trans ((lv_osw c172 (by decide)).trans ((lv_osw c180 (by decide)).trans ((lv_osw c188 (by decide)).trans rfl)))) (by decide) ?_
        refine lv_iconst (v := 1) hx hb dX1_readWork_227 (by decide) ?_
        have hres := Option.some.inj hsp
        subst hres
        exact W.zret (v := 1) hx hb hr (zE (Or.inr rfl)) (fun t ht hW => ⟨⟨1, (), rfl, ⟨rfl, (Or.inr rfl)⟩, P_at ht hP⟩, hS.F ht⟩) hS.2.2 dX1_readWork_228
      have hsp := itF hsp c167
      refine lv_iload_n hx hb dX1_readWork_66 rfl (lv_at hl 1 rfl) ?_
      refine lv_if_ne (tgt := 80) hx hb dX1_readWork_67 (by decide) (fun _ => ?_) (fun hc => absurd hc (by decide))
      refine lv_aload_n hx hb dX1_readWork_80 rfl (lv_at hl 4 rfl) ?_
      refine lv_dup hx hb dX1_readWork_81 rfl ?_
      refine va_get (D := D) (ci := 1) (v := .int r1.2) (C := RX1) (T := TX1) (N := 4) hx hb hts hi_X1 hown hK hP 0 rfl rfl 2 (by decide) hf_19 (fun _ h9 => h9) rfl dX1_readWork_82 ?_
      refine lv_iconst (v := 1) hx hb dX1_readWork_85 (by decide) ?_
      refine lv_iadd hx hb dX1_readWork_86 ?_
      obtain ⟨x190, ex190, hsp⟩ := nmE hsp
      refine r_top ex190 ?_
      refine va_put (D := D) (ci := 1) (v := .int x190) (ty := .int) (C := RX1) (T := TX1) (N := 4) hx hb hts hi_X1 tyX1 tyX1_ok nmX1 hown hK hP hD hS 0 rfl rfl 2 (by decide) hf_19 (fun _ h9 => h9) rfl (by decide +kernel) rfl rfl (Nat.le_of_ble_eq_true rfl) dX1_readWork_87 (fun H locs hP hD hS => ?_)
      have hP : va_P D vwCl [(a0, .inr (1, [.ref a1, .int g0_1, .int x190, .ref a2])), (a1, .inl (cI, 60, .inl f1)), (a2, .inr (3, [.int g2_0, .int g2_1, .int g2_2, .int g2_3, .ref a3])), (a3, .inl (cI, 4, .inl f3))] H := hP
      have hD : va_D A [(a0, .inr (1, [.ref a1, .int g0_1, .int x190, .ref a2])), (a1, .inl (cI, 60, .inl f1)), (a2, .inr (3, [.int g2_0, .int g2_1, .int g2_2, .int g2_3, .ref a3])), (a3, .inl (cI, 4, .inl f3))] := hD
      refine lv_aload_n hx hb dX1_readWork_90 rfl (lv_at hl 4 rfl) ?_
      refine va_get (D := D) (ci := 1) (v := .ref a2) (C := RX1) (T := TX1) (N := 4) hx hb hts hi_X1 hown hK hP 0 rfl rfl 3 (by decide) hf_25 (fun _ h9 => h9) rfl dX1_readWork_91 ?_
      refine lv_iload_n hx hb dX1_readWork_94 rfl (lv_at hl 2 rfl) ?_
      refine lv_iload_n hx hb dX1_readWork_95 rfl (lv_at hl 3 rfl) ?_
      obtain ⟨r191, hcr191, hsp⟩ := clE hsp
      refine call_v (w1 := [(a2, .inr (3, [.int r191.1, .int r191.2.1, .int r191.2.2.1, .int r191.2.2.2.1, .ref a3])), (a3, .inl (cI, 4, .inl r191.2.2.2.2))]) (ws' := [(a0, .inr (1, [.ref a1, .int g0_1, .int x190, .ref a2])), (a1, .inl (cI, 60, .inl f1)), (a2, .inr (3, [.int r191.1, .int r191.2.1, .int r191.2.2.1, .int r191.2.2.2.1, .ref a3])), (a3, .inl (cI, 4, .inl r191.2.2.2.2))]) (va_runV (As := [.int r2, .int r1.1]) (rest := []) ⟨hx, hb, hml, hown, hts⟩ (k_X3_begin l D cI cZ cC cS H.size a2 a3 g2_0 g2_1 g2_2 g2_3 f3 r2 r1.1 r191 hcr191) (cwV 2 hts gX1_readWork_X3_begin rfl rfl rfl nd_X3_begin ⟨Nat.le_of_ble_eq_true rfl, Nat.le_of_ble_eq_true rfl⟩) (PB.preV (ci := 3) (q0 := 2) hKU hP hD [2, 3] rfl rfl rfl rfl) rfl rfl hl.1 rfl (lv_room (Nat.le_of_ble_eq_true rfl)) dX1_readWork_96 ⟨Nat.zero_le _, Nat.zero_le _⟩) hS hP hD hA [2, 3] rfl rfl (by first | (simp only [wset, List.set_cons_zero, List.set_cons_succ]; done) | rfl) rfl (fun H locs hP hD hS => ?_)
      refine lv_iload_n hx hb dX1_readWork_99 rfl (lv_at hl 2 rfl) ?_
      by_cases c192 : r2 = 43
      · have hsp := itT hsp c192
        refine lv_lookup (off := 44) (tgt := 144) hx hb dX1_readWork_100 (by decide) (by rw [c192]; decide) (by decide) ?_
        refine lv_aload_n hx hb dX1_readWork_144 rfl (lv_at hl 4 rfl) ?_
        obtain ⟨r193, hcr193, hsp⟩ := clE hsp
        refine call_z (w1 := [(a0, .inr (1, [.ref a1, .int g0_1, .int r193.2.1, .ref a2])), (a1, .inl (cI, 60, .inl f1)), (a2, .inr (3, [.int r191.1, .int r191.2.1, .int r191.2.2.1, .int r191.2.2.2.1, .ref a3])), (a3, .inl (cI, 4, .inl r193.2.2))]) (ws' := [(a0, .inr (1, [.ref a1, .int g0_1, .int r193.2.1, .ref a2])), (a1, .inl (cI, 60, .inl f1)), (a2, .inr (3, [.int r191.1, .int r191.2.1, .int r191.2.2.1, .int r191.2.2.2.1, .ref a3])), (a3, .inl (cI, 4, .inl r193.2.2))]) (va_runV (As := []) (rest := []) ⟨hx, hb, hml, hown, hts⟩ (k_X1_readKinds l D cI cZ cC cS H.size a0 a1 a2 a3 g0_1 x190 f1 (.int r191.1) (.int r191.2.1) (.int r191.2.2.1) (.int r191.2.2.2.1) r191.2.2.2.2 r193 hcr193) (cwV 0 hts gX1_readWork_X1_readKinds rfl rfl rfl nd_X1_readKinds ⟨Nat.le_of_ble_eq_true rfl, Nat.le_of_ble_eq_true rfl⟩) (PB.preV (ci := 1) (q0 := 0) hKU hP hD [0, 1, 2, 3] rfl rfl rfl rfl) rfl rfl hl.1 rfl (lv_room (Nat.le_of_ble_eq_true rfl)) dX1_readWork_145 ⟨Nat.zero_le _, Nat.zero_le _⟩) hS hP hD hA [0, 1, 2, 3] rfl rfl (by first | (simp only [wset, List.set_cons_zero, List.set_cons_succ]; done) | rfl) rfl (fun H locs hP hD hS hzr193 => ?_)
        have hres := Option.some.inj hsp
        subst hres
        exact W.zret (v := r193.1) hx hb hr (zE hzr193) (fun t ht hW => ⟨⟨r193.1, (), rfl, ⟨rfl, hzr193⟩, P_at ht hP⟩, hS.F ht⟩) hS.2.2 dX1_readWork_148
      have hsp := itF hsp c192
      by_cases c194 : r2 = 62
      · have hsp := itT hsp c194
        refine lv_lookup (off := 49) (tgt := 149) hx hb dX1_readWork_100 (by decide) (by rw [c194]; decide) (by decide) ?_
        refine lv_aload_n hx hb dX1_readWork_149 rfl (lv_at hl 4 rfl) ?_
        obtain ⟨r195, hcr195, hsp⟩ := clE hsp
        refine call_z (w1 := [(a0, .inr (1, [.ref a1, .int g0_1, .int r195.2.1, .ref a2])), (a1, .inl (cI, 60, .inl f1)), (a2, .inr (3, [.int r191.1, .int r191.2.1, .int r195.2.2, .int r191.2.2.2.1, .ref a3]))]) (ws' := [(a0, .inr (1, [.ref a1, .int g0_1, .int r195.2.1, .ref a2])), (a1, .inl (cI, 60, .inl f1)), (a2, .inr (3, [.int r191.1, .int r191.2.1, .int r195.2.2, .int r191.2.2.2.1, .ref a3])), (a3, .inl (cI, 4, .inl r191.2.2.2.2))]) (va_runV (As := []) (rest := []) ⟨hx, hb, hml, hown, hts⟩ (k_X1_readOther l D cI cZ cC cS H.size a0 a1 a2 g0_1 x190 f1 (.int r191.1) (.int r191.2.1) r191.2.2.1 (.int r191.2.2.2.1) (.ref a3) r195 hcr195) (cwV 0 hts gX1_readWork_X1_readOther rfl rfl rfl nd_X1_readOther ⟨Nat.le_of_ble_eq_true rfl, Nat.le_of_ble_eq_true rfl⟩) (PB.preV (ci := 1) (q0 := 0) hKU hP hD [0, 1, 2] rfl rfl rfl rfl) rfl rfl hl.1 rfl (lv_room (Nat.le_of_ble_eq_true rfl)) dX1_readWork_150 ⟨Nat.zero_le _, Nat.zero_le _⟩) hS hP hD hA [0, 1, 2] rfl rfl (by first | (simp only [wset, List.set_cons_zero, List.set_cons_succ]; done) | rfl) rfl (fun H locs hP hD hS hzr195 => ?_)
        refine lv_if_eq (tgt := 180) hx hb dX1_readWork_153 (by decide) (fun c196 => ?_) (fun c196 => ?_)
        · have hsp := itT hsp c196
          refine lv_iconst (v := 0) hx hb dX1_readWork_180 (by decide) ?_
          have hres := Option.some.inj hsp
          subst hres
          exact W.zret (v := 0) hx hb hr (zE (Or.inl rfl)) (fun t ht hW => ⟨⟨0, (), rfl, ⟨rfl, (Or.inl rfl)⟩, P_at ht hP⟩, hS.F ht⟩) hS.2.2 dX1_readWork_181
        have hsp := itF hsp c196
        refine lv_aload_n hx hb dX1_readWork_156 rfl (lv_at hl 4 rfl) ?_
        refine lv_bipush (v := 58) hx hb dX1_readWork_157 (by decide) ?_
        obtain ⟨r197, hcr197, hsp⟩ := clE hsp
        refine call_z (w1 := [(a0, .inr (1, [.ref a1, .int g0_1, .int r197.2, .ref a2])), (a1, .inl (cI, 60, .inl f1))]) (ws' := [(a0, .inr (1, [.ref a1, .int g0_1, .int r197.2, .ref a2])), (a1, .inl (cI, 60, .inl f1)), (a2, .inr (3, [.int r191.1, .int r191.2.1, .int r195.2.2, .int r191.2.2.2.1, .ref a3])), (a3, .inl (cI, 4, .inl r191.2.2.2.2))]) (va_runV (As := [.int 58]) (rest := []) ⟨hx, hb, hml, hown, hts⟩ (k_X1_readSign l D cI cZ cC cS H.size a0 a1 g0_1 r195.2.1 (.ref a2) f1 58 r197 hcr197) (cwV 1 hts gX1_readWork_X1_readSign rfl rfl rfl nd_X1_readSign ⟨Nat.le_of_ble_eq_true rfl, Nat.le_of_ble_eq_true rfl⟩) (PB.preV (ci := 1) (q0 := 0) hKU hP hD [0, 1] rfl rfl rfl rfl) rfl rfl hl.1 rfl (lv_room (Nat.le_of_ble_eq_true rfl)) dX1_readWork_159 ⟨Nat.zero_le _, Nat.zero_le _⟩) hS hP hD hA [0, 1] rfl rfl (by first | (simp only [wset, List.set_cons_zero, List.set_cons_succ]; done) | rfl) rfl (fun H locs hP hD hS hzr197 => ?_)
        refine lv_if_eq (tgt := 180) hx hb dX1_readWork_162 (by decide) (fun c198 => ?_) (fun c198 => ?_)
        · have hsp := itT hsp c198
          refine lv_iconst (v := 0) hx hb dX1_readWork_180 (by decide) ?_
          have hres := Option.some.inj hsp
          subst hres
          exact W.zret (v := 0) hx hb hr (zE (Or.inl rfl)) (fun t ht hW => ⟨⟨0, (), rfl, ⟨rfl, (Or.inl rfl)⟩, P_at ht hP⟩, hS.F ht⟩) hS.2.2 dX1_readWork_181
        have hsp := itF hsp c198
        refine lv_aload_n hx hb dX1_readWork_165 rfl (lv_at hl 4 rfl) ?_
        refine lv_aload_n hx hb dX1_readWork_166 rfl (lv_at hl 4 rfl) ?_
        obtain ⟨r199, hcr199, hsp⟩ := clE hsp
        refine call_i (w1 := [(a0, .inr (1, [.ref a1, .int g0_1, .int r199.2, .ref a2])), (a1, .inl (cI, 60, .inl f1))]) (ws' := [(a0, .inr (1, [.ref a1, .int g0_1, .int r199.2, .ref a2])), (a1, .inl (cI, 60, .inl f1)), (a2, .inr (3, [.int r191.1, .int r191.2.1, .int r195.2.2, .int r191.2.2.2.1, .ref a3])), (a3, .inl (cI, 4, .inl r191.2.2.2.2))]) (va_runV (As := []) (rest := [.ref a0]) ⟨hx, hb, hml, hown, hts⟩ (k_X1_readNumber l D cI cZ cC cS H.size a0 a1 g0_1 r197.2 (.ref a2) f1 r199 hcr199) (cwV 0 hts gX1_readWork_X1_readNumber rfl rfl rfl nd_X1_readNumber ⟨Nat.le_of_ble_eq_true rfl, Nat.le_of_ble_eq_true rfl⟩) (PB.preV (ci := 1) (q0 := 0) hKU hP hD [0, 1] rfl rfl rfl rfl) rfl rfl hl.1 rfl (lv_room (Nat.le_of_ble_eq_true rfl)) dX1_readWork_167 ⟨Nat.zero_le _, Nat.zero_le _⟩) hS hP hD hA [0, 1] rfl rfl (by first | (simp only [wset, List.set_cons_zero, List.set_cons_succ]; done) | rfl) rfl (fun H locs hP hD hS => ?_)
        obtain ⟨r200, hcr200, hsp⟩ := clE hsp
        refine call_z (w1 := [(a0, .inr (1, [.ref a1, .int g0_1, .int r199.2, .ref a2])), (a2, .inr (3, [.int r191.1, .int r191.2.1, .int r195.2.2, .int r200.2, .ref a3]))]) (ws' := [(a0, .inr (1, [.ref a1, .int g0_1, .int r199.2, .ref a2])), (a1, .inl (cI, 60, .inl f1)), (a2, .inr (3, [.int r191.1, .int r191.2.1, .int r195.2.2, .int r200.2, .ref a3])), (a3, .inl (cI, 4, .inl r191.2.2.2.2))]) (va_runV (As := [.int r199.1]) (rest := []) ⟨hx, hb, hml, hown, hts⟩ (k_X1_readDrops l D cI cZ cC cS H.size a0 a2 (.ref a1) (.int g0_1) (.int r199.2) (.int r191.1) (.int r191.2.1) (.int r195.2.2) r191.2.2.2.1 (.ref a3) r199.1 r200 hcr200) (cwV 1 hts gX1_readWork_X1_readDrops rfl rfl rfl nd_X1_readDrops ⟨Nat.le_of_ble_eq_true rfl, Nat.le_of_ble_eq_true rfl⟩) (PB.preV (ci := 1) (q0 := 0) hKU hP hD [0, 2] rfl rfl rfl rfl) rfl rfl hl.1 rfl (lv_room (Nat.le_of_ble_eq_true rfl)) dX1_readWork_170 ⟨Nat.zero_le _, Nat.zero_le _⟩) hS hP hD hA [0, 2] rfl rfl (by first | (simp only [wset, List.set_cons_zero, List.set_cons_succ]; done) | rfl) rfl (fun H locs hP hD hS hzr200 => ?_)
        refine lv_if_eq (tgt := 180) hx hb dX1_readWork_173 (by decide) (fun c201 => ?_) (fun c201 => ?_)
        · have hsp := itT hsp c201
          refine lv_iconst (v := 0) hx hb dX1_readWork_180 (by decide) ?_
          have hres := Option.some.inj hsp
          subst hres
          exact W.zret (v := 0) hx hb hr (zE (Or.inl rfl)) (fun t ht hW => ⟨⟨0, (), rfl, ⟨rfl, (Or.inl rfl)⟩, P_at ht hP⟩, hS.F ht⟩) hS.2.2 dX1_readWork_181
        have hsp := itF hsp c201
        refine lv_iconst (v := 1) hx hb dX1_readWork_176 (by decide) ?_
        refine lv_goto (tgt := 181) hx hb dX1_readWork_177 (by decide) ?_
        have hres := Option.some.inj hsp
        subst hres
        exact W.zret (v := 1) hx hb hr (zE (Or.inr rfl)) (fun t ht hW => ⟨⟨1, (), rfl, ⟨rfl, (Or.inr rfl)⟩, P_at ht hP⟩, hS.F ht⟩) hS.2.2 dX1_readWork_181
      have hsp := itF hsp c194
      by_cases c202 : r2 = 100
      · have hsp := itT hsp c202
        refine lv_lookup (off := 82) (tgt := 182) hx hb dX1_readWork_100 (by decide) (by rw [c202]; decide) (by decide) ?_
        refine lv_aload_n hx hb dX1_readWork_182 rfl (lv_at hl 4 rfl) ?_
        refine lv_bipush (v := 8) hx hb dX1_readWork_183 (by decide) ?_
        obtain ⟨r203, hcr203, hsp⟩ := clE hsp
        refine call_z (w1 := [(a0, .inr (1, [.ref a1, .int g0_1, .int r203.2.1, .ref a2])), (a1, .inl (cI, 60, .inl f1)), (a2, .inr (3, [.int r191.1, .int r203.2.2, .int r191.2.2.1, .int r191.2.2.2.1, .ref a3]))]) (ws' := [(a0, .inr (1, [.ref a1, .int g0_1, .int r203.2.1, .ref a2])), (a1, .inl (cI, 60, .inl f1)), (a2, .inr (3, [.int r191.1, .int r203.2.2, .int r191.2.2.1, .int r191.2.2.2.1, .ref a3])), (a3, .inl (cI, 4, .inl r191.2.2.2.2))]) (va_runV (As := [.int 8]) (rest := []) ⟨hx, hb, hml, hown, hts⟩ (k_X1_readTarget l D cI cZ cC cS H.size a0 a1 a2 g0_1 x190 f1 (.int r191.1) r191.2.1 (.int r191.2.2.1) (.int r191.2.2.2.1) (.ref a3) 8 r203 hcr203) (cwV 1 hts gX1_readWork_X1_readTarget rfl rfl rfl nd_X1_readTarget ⟨Nat.le_of_ble_eq_true rfl, Nat.le_of_ble_eq_true rfl⟩) (PB.preV (ci := 1) (q0 := 0) hKU hP hD [0, 1, 2] rfl rfl rfl rfl) rfl rfl hl.1 rfl (lv_room (Nat.le_of_ble_eq_true rfl)) dX1_readWork_185 ⟨Nat.zero_le _, Nat.zero_le _⟩) hS hP hD hA [0, 1, 2] rfl rfl (by first | (simp only [wset, List.set_cons_zero, List.set_cons_succ]; done) | rfl) rfl (fun H locs hP hD hS hzr203 => ?_)
        refine lv_if_eq (tgt := 218) hx hb dX1_readWork_188 (by decide) (fun c204 => ?_) (fun c204 => ?_)
        · have hsp := itT hsp c204
          refine lv_iconst (v := 0) hx hb dX1_readWork_218 (by decide) ?_
          have hres := Option.some.inj hsp
          subst hres
          exact W.zret (v := 0) hx hb hr (zE (Or.inl rfl)) (fun t ht hW => ⟨⟨0, (), rfl, ⟨rfl, (Or.inl rfl)⟩, P_at ht hP⟩, hS.F ht⟩) hS.2.2 dX1_readWork_219
        have hsp := itF hsp c204
        refine lv_aload_n hx hb dX1_readWork_191 rfl (lv_at hl 4 rfl) ?_
        refine lv_bipush (v := 58) hx hb dX1_readWork_192 (by decide) ?_
        obtain ⟨r205, hcr205, hsp⟩ := clE hsp
        refine call_z (w1 := [(a0, .inr (1, [.ref a1, .int g0_1, .int r205.2, .ref a2])), (a1, .inl (cI, 60, .inl f1))]) (ws' := [(a0, .inr (1, [.ref a1, .int g0_1, .int r205.2, .ref a2])), (a1, .inl (cI, 60, .inl f1)), (a2, .inr (3, [.int r191.1, .int r203.2.2, .int r191.2.2.1, .int r191.2.2.2.1, .ref a3])), (a3, .inl (cI, 4, .inl r191.2.2.2.2))]) (va_runV (As := [.int 58]) (rest := []) ⟨hx, hb, hml, hown, hts⟩ (k_X1_readSign l D cI cZ cC cS H.size a0 a1 g0_1 r203.2.1 (.ref a2) f1 58 r205 hcr205) (cwV 1 hts gX1_readWork_X1_readSign rfl rfl rfl nd_X1_readSign ⟨Nat.le_of_ble_eq_true rfl, Nat.le_of_ble_eq_true rfl⟩) (PB.preV (ci := 1) (q0 := 0) hKU hP hD [0, 1] rfl rfl rfl rfl) rfl rfl hl.1 rfl (lv_room (Nat.le_of_ble_eq_true rfl)) dX1_readWork_194 ⟨Nat.zero_le _, Nat.zero_le _⟩) hS hP hD hA [0, 1] rfl rfl (by first | (simp only [wset, List.set_cons_zero, List.set_cons_succ]; done) | rfl) rfl (fun H locs hP hD hS hzr205 => ?_)
        refine lv_if_eq (tgt := 218) hx hb dX1_readWork_197 (by decide) (fun c206 => ?_) (fun c206 => ?_)
        · have hsp := itT hsp c206
          refine lv_iconst (v := 0) hx hb dX1_readWork_218 (by decide) ?_
          have hres := Option.some.inj hsp
          subst hres
          exact W.zret (v := 0) hx hb hr (zE (Or.inl rfl)) (fun t ht hW => ⟨⟨0, (), rfl, ⟨rfl, (Or.inl rfl)⟩, P_at ht hP⟩, hS.F ht⟩) hS.2.2 dX1_readWork_219
        have hsp := itF hsp c206
        refine lv_aload_n hx hb dX1_readWork_200 rfl (lv_at hl 4 rfl) ?_
        refine lv_aload_n hx hb dX1_readWork_201 rfl (lv_at hl 4 rfl) ?_
        refine lv_iconst (v := 1) hx hb dX1_readWork_202 (by decide) ?_
        refine lv_bipush (v := 9) hx hb dX1_readWork_203 (by decide) ?_
        obtain ⟨r207, hcr207, hsp⟩ := clE hsp
        refine call_i (w1 := [(a0, .inr (1, [.ref a1, .int g0_1, .int r207.2, .ref a2])), (a1, .inl (cI, 60, .inl f1))]) (ws' := [(a0, .inr (1, [.ref a1, .int g0_1, .int r207.2, .ref a2])), (a1, .inl (cI, 60, .inl f1)), (a2, .inr (3, [.int r191.1, .int r203.2.2, .int r191.2.2.1, .int r191.2.2.2.1, .ref a3])), (a3, .inl (cI, 4, .inl r191.2.2.2.2))]) (va_runV (As := [.int 1, .int 9]) (rest := [.ref a0]) ⟨hx, hb, hml, hown, hts⟩ (k_X1_readDigit l D cI cZ cC cS H.size a0 a1 g0_1 r205.2 (.ref a2) f1 1 9 r207 hcr207) (cwV 2 hts gX1_readWork_X1_readDigit rfl rfl rfl nd_X1_readDigit ⟨Nat.le_of_ble_eq_true rfl, Nat.le_of_ble_eq_true rfl⟩) (PB.preV (ci := 1) (q0 := 0) hKU hP hD [0, 1] rfl rfl rfl rfl) rfl rfl hl.1 rfl (lv_room (Nat.le_of_ble_eq_true rfl)) dX1_readWork_205 ⟨Nat.zero_le _, Nat.zero_le _⟩) hS hP hD hA [0, 1] rfl rfl (by first | (simp only [wset, List.set_cons_zero, List.set_cons_succ]; done) | rfl) rfl (fun H locs hP hD hS => ?_)
        obtain ⟨r208, hcr208, hsp⟩ := clE hsp
        refine call_z (w1 := [(a0, .inr (1, [.ref a1, .int g0_1, .int r207.2, .ref a2])), (a2, .inr (3, [.int r191.1, .int r203.2.2, .int r191.2.2.1, .int r208.2, .ref a3]))]) (ws' := [(a0, .inr (1, [.ref a1, .int g0_1, .int r207.2, .ref a2])), (a1, .inl (cI, 60, .inl f1)), (a2, .inr (3, [.int r191.1, .int r203.2.2, .int r191.2.2.1, .int r208.2, .ref a3])), (a3, .inl (cI, 4, .inl r191.2.2.2.2))]) (va_runV (As := [.int r207.1]) (rest := []) ⟨hx, hb, hml, hown, hts⟩ (k_X1_readDrops l D cI cZ cC cS H.size a0 a2 (.ref a1) (.int g0_1) (.int r207.2) (.int r191.1) (.int r203.2.2) (.int r191.2.2.1) r191.2.2.2.1 (.ref a3) r207.1 r208 hcr208) (cwV 1 hts gX1_readWork_X1_readDrops rfl rfl rfl nd_X1_readDrops ⟨Nat.le_of_ble_eq_true rfl, Nat.le_of_ble_eq_true rfl⟩) (PB.preV (ci := 1) (q0 := 0) hKU hP hD [0, 2] rfl rfl rfl rfl) rfl rfl hl.1 rfl (lv_room (Nat.le_of_ble_eq_true rfl)) dX1_readWork_208 ⟨Nat.zero_le _, Nat.zero_le _⟩) hS hP hD hA [0, 2] rfl rfl (by first | (simp only [wset, List.set_cons_zero, List.set_cons_succ]; done) | rfl) rfl (fun H locs hP hD hS hzr208 => ?_)
        refine lv_if_eq (tgt := 218) hx hb dX1_readWork_211 (by decide) (fun c209 => ?_) (fun c209 => ?_)
        · have hsp := itT hsp c209
          refine lv_iconst (v := 0) hx hb dX1_readWork_218 (by decide) ?_
          have hres := Option.some.inj hsp
          subst hres
          exact W.zret (v := 0) hx hb hr (zE (Or.inl rfl)) (fun t ht hW => ⟨⟨0, (), rfl, ⟨rfl, (Or.inl rfl)⟩, P_at ht hP⟩, hS.F ht⟩) hS.2.2 dX1_readWork_219
        have hsp := itF hsp c209
        refine lv_iconst (v := 1) hx hb dX1_readWork_214 (by decide) ?_
        refine lv_goto (tgt := 219) hx hb dX1_readWork_215 (by decide) ?_
        have hres := Option.some.inj hsp
        subst hres
        exact W.zret (v := 1) hx hb hr (zE (Or.inr rfl)) (fun t ht hW => ⟨⟨1, (), rfl, ⟨rfl, (Or.inr rfl)⟩, P_at ht hP⟩, hS.F ht⟩) hS.2.2 dX1_readWork_219
      have hsp := itF hsp c202
      by_cases c210 : r2 = 112
      · have hsp := itT hsp c210
        refine lv_lookup (off := 120) (tgt := 220) hx hb dX1_readWork_100 (by decide) (by rw [c210]; decide) (by decide) ?_
        refine lv_aload_n hx hb dX1_readWork_220 rfl (lv_at hl 4 rfl) ?_
        refine lv_bipush (v := 6) hx hb dX1_readWork_221 (by decide) ?_
        obtain ⟨r211, hcr211, hsp⟩ := clE hsp
        refine call_z (w1 := [(a0, .inr (1, [.ref a1, .int g0_1, .int r211.2.1, .ref a2])), (a1, .inl (cI, 60, .inl f1)), (a2, .inr (3, [.int r191.1, .int r211.2.2, .int r191.2.2.1, .int r191.2.2.2.1, .ref a3]))]) (ws' := [(a0, .inr (1, [.ref a1, .int g0_1, .int r211.2.1, .ref a2])), (a1, .inl (cI, 60, .inl f1)), (a2, .inr (3, [.int r191.1, .int r211.2.2, .int r191.2.2.1, .int r191.2.2.2.1, .ref a3])), (a3, .inl (cI, 4, .inl r191.2.2.2.2))]) (va_runV (As := [.int 6]) (rest := []) ⟨hx, hb, hml, hown, hts⟩ (k_X1_readTarget l D cI cZ cC cS H.size a0 a1 a2 g0_1 x190 f1 (.int r191.1) r191.2.1 (.int r191.2.2.1) (.int r191.2.2.2.1) (.ref a3) 6 r211 hcr211) (cwV 1 hts gX1_readWork_X1_readTarget rfl rfl rfl nd_X1_readTarget ⟨Nat.le_of_ble_eq_true rfl, Nat.le_of_ble_eq_true rfl⟩) (PB.preV (ci := 1) (q0 := 0) hKU hP hD [0, 1, 2] rfl rfl rfl rfl) rfl rfl hl.1 rfl (lv_room (Nat.le_of_ble_eq_true rfl)) dX1_readWork_223 ⟨Nat.zero_le _, Nat.zero_le _⟩) hS hP hD hA [0, 1, 2] rfl rfl (by first | (simp only [wset, List.set_cons_zero, List.set_cons_succ]; done) | rfl) rfl (fun H locs hP hD hS hzr211 => ?_)
        have hres := Option.some.inj hsp
        subst hres
        exact W.zret (v := r211.1) hx hb hr (zE hzr211) (fun t ht hW => ⟨⟨r211.1, (), rfl, ⟨rfl, hzr211⟩, P_at ht hP⟩, hS.F ht⟩) hS.2.2 dX1_readWork_226
      have hsp := itF hsp c210
      refine lv_lookup (off := 127) (tgt := 227) hx hb dX1_readWork_100 (by decide) ((lv_osw c192 (by decide)).trans ((lv_osw c194 (by decide)).trans ((lv_osw c202 (by decide)).trans ((lv_osw c210 (by decide)).trans rfl)))) (by decide) ?_
      refine lv_iconst (v := 1) hx hb dX1_readWork_227 (by decide) ?_
      have hres := Option.some.inj hsp
      subst hres
      exact W.zret (v := 1) hx hb hr (zE (Or.inr rfl)) (fun t ht hW => ⟨⟨1, (), rfl, ⟨rfl, (Or.inr rfl)⟩, P_at ht hP⟩, hS.F ht⟩) hS.2.2 dX1_readWork_228
    have hsp := itF hsp c166
    refine lv_iload_n hx hb dX1_readWork_43 rfl (lv_at hl 1 rfl) ?_
    refine lv_bipush (v := 112) hx hb dX1_readWork_44 (by decide) ?_
    refine lv_icmp_eq (tgt := 55) hx hb dX1_readWork_46 (by decide) (fun c212 => ?_) (fun c212 => ?_)
    · have hsp := itT hsp c212
      refine lv_iconst (v := 1) hx hb dX1_readWork_55 (by decide) ?_
      refine lv_goto (tgt := 60) hx hb dX1_readWork_56 (by decide) ?_
      refine lv_istore (lv' := [(4, .int 1), (3, .int 1), (2, .int r2), (1, .int r1.1), (0, .ref a0)]) hx hb dX1_readWork_60 hl (by decide) rfl (fun ls hl => ?_)
      refine lv_iload_n hx hb dX1_readWork_62 rfl (lv_at hl 3 rfl) ?_
      refine lv_if_lt (tgt := 73) hx hb dX1_readWork_63 (by decide) (fun c213 => ?_) (fun c213 => ?_)
      · have hsp := itT hsp c213
        refine lv_iload hx hb dX1_readWork_73 (lv_at hl 0 rfl) ?_
        refine lv_if_ne (tgt := 80) hx hb dX1_readWork_75 (by decide) (fun _ => ?_) (fun hc => absurd hc (by decide))
        refine lv_aload_n hx hb dX1_readWork_80 rfl (lv_at hl 4 rfl) ?_
        refine lv_dup hx hb dX1_readWork_81 rfl ?_
        refine va_get (D := D) (ci := 1) (v := .int r1.2) (C := RX1) (T := TX1) (N := 4) hx hb hts hi_X1 hown hK hP 0 rfl rfl 2 (by decide) hf_19 (fun _ h9 => h9) rfl dX1_readWork_82 ?_
        refine lv_iconst (v := 1) hx hb dX1_readWork_85 (by decide) ?_
        refine lv_iadd hx hb dX1_readWork_86 ?_
        obtain ⟨x214, ex214, hsp⟩ := nmE hsp
        refine r_top ex214 ?_
        refine va_put (D := D) (ci := 1) (v := .int x214) (ty := .int) (C := RX1) (T := TX1) (N := 4) hx hb hts hi_X1 tyX1 tyX1_ok nmX1 hown hK hP hD hS 0 rfl rfl 2 (by decide) hf_19 (fun _ h9 => h9) rfl (by decide +kernel) rfl rfl (Nat.le_of_ble_eq_true rfl) dX1_readWork_87 (fun H locs hP hD hS => ?_)
        have hP : va_P D vwCl [(a0, .inr (1, [.ref a1, .int g0_1, .int x214, .ref a2])), (a1, .inl (cI, 60, .inl f1)), (a2, .inr (3, [.int g2_0, .int g2_1, .int g2_2, .int g2_3, .ref a3])), (a3, .inl (cI, 4, .inl f3))] H := hP
        have hD : va_D A [(a0, .inr (1, [.ref a1, .int g0_1, .int x214, .ref a2])), (a1, .inl (cI, 60, .inl f1)), (a2, .inr (3, [.int g2_0, .int g2_1, .int g2_2, .int g2_3, .ref a3])), (a3, .inl (cI, 4, .inl f3))] := hD
        refine lv_aload_n hx hb dX1_readWork_90 rfl (lv_at hl 4 rfl) ?_
        refine va_get (D := D) (ci := 1) (v := .ref a2) (C := RX1) (T := TX1) (N := 4) hx hb hts hi_X1 hown hK hP 0 rfl rfl 3 (by decide) hf_25 (fun _ h9 => h9) rfl dX1_readWork_91 ?_
        refine lv_iload_n hx hb dX1_readWork_94 rfl (lv_at hl 2 rfl) ?_
        refine lv_iload_n hx hb dX1_readWork_95 rfl (lv_at hl 3 rfl) ?_
        obtain ⟨r215, hcr215, hsp⟩ := clE hsp
        refine call_v (w1 := [(a2, .inr (3, [.int r215.1, .int r215.2.1, .int r215.2.2.1, .int r215.2.2.2.1, .ref a3])), (a3, .inl (cI, 4, .inl r215.2.2.2.2))]) (ws' := [(a0, .inr (1, [.ref a1, .int g0_1, .int x214, .ref a2])), (a1, .inl (cI, 60, .inl f1)), (a2, .inr (3, [.int r215.1, .int r215.2.1, .int r215.2.2.1, .int r215.2.2.2.1, .ref a3])), (a3, .inl (cI, 4, .inl r215.2.2.2.2))]) (va_runV (As := [.int r2, .int r1.1]) (rest := []) ⟨hx, hb, hml, hown, hts⟩ (k_X3_begin l D cI cZ cC cS H.size a2 a3 g2_0 g2_1 g2_2 g2_3 f3 r2 r1.1 r215 hcr215) (cwV 2 hts gX1_readWork_X3_begin rfl rfl rfl nd_X3_begin ⟨Nat.le_of_ble_eq_true rfl, Nat.le_of_ble_eq_true rfl⟩) (PB.preV (ci := 3) (q0 := 2) hKU hP hD [2, 3] rfl rfl rfl rfl) rfl rfl hl.1 rfl (lv_room (Nat.le_of_ble_eq_true rfl)) dX1_readWork_96 ⟨Nat.zero_le _, Nat.zero_le _⟩) hS hP hD hA [2, 3] rfl rfl (by first | (simp only [wset, List.set_cons_zero, List.set_cons_succ]; done) | rfl) rfl (fun H locs hP hD hS => ?_)
        refine lv_iload_n hx hb dX1_readWork_99 rfl (lv_at hl 2 rfl) ?_
        by_cases c216 : r2 = 43
        · have hsp := itT hsp c216
          refine lv_lookup (off := 44) (tgt := 144) hx hb dX1_readWork_100 (by decide) (by rw [c216]; decide) (by decide) ?_
          refine lv_aload_n hx hb dX1_readWork_144 rfl (lv_at hl 4 rfl) ?_
          obtain ⟨r217, hcr217, hsp⟩ := clE hsp
          refine call_z (w1 := [(a0, .inr (1, [.ref a1, .int g0_1, .int r217.2.1, .ref a2])), (a1, .inl (cI, 60, .inl f1)), (a2, .inr (3, [.int r215.1, .int r215.2.1, .int r215.2.2.1, .int r215.2.2.2.1, .ref a3])), (a3, .inl (cI, 4, .inl r217.2.2))]) (ws' := [(a0, .inr (1, [.ref a1, .int g0_1, .int r217.2.1, .ref a2])), (a1, .inl (cI, 60, .inl f1)), (a2, .inr (3, [.int r215.1, .int r215.2.1, .int r215.2.2.1, .int r215.2.2.2.1, .ref a3])), (a3, .inl (cI, 4, .inl r217.2.2))]) (va_runV (As := []) (rest := []) ⟨hx, hb, hml, hown, hts⟩ (k_X1_readKinds l D cI cZ cC cS H.size a0 a1 a2 a3 g0_1 x214 f1 (.int r215.1) (.int r215.2.1) (.int r215.2.2.1) (.int r215.2.2.2.1) r215.2.2.2.2 r217 hcr217) (cwV 0 hts gX1_readWork_X1_readKinds rfl rfl rfl nd_X1_readKinds ⟨Nat.le_of_ble_eq_true rfl, Nat.le_of_ble_eq_true rfl⟩) (PB.preV (ci := 1) (q0 := 0) hKU hP hD [0, 1, 2, 3] rfl rfl rfl rfl) rfl rfl hl.1 rfl (lv_room (Nat.le_of_ble_eq_true rfl)) dX1_readWork_145 ⟨Nat.zero_le _, Nat.zero_le _⟩) hS hP hD hA [0, 1, 2, 3] rfl rfl (by first | (simp only [wset, List.set_cons_zero, List.set_cons_succ]; done) | rfl) rfl (fun H locs hP hD hS hzr217 => ?_)
          have hres := Option.some.inj hsp
          subst hres
          exact W.zret (v := r217.1) hx hb hr (zE hzr217) (fun t ht hW => ⟨⟨r217.1, (), rfl, ⟨rfl, hzr217⟩, P_at ht hP⟩, hS.F ht⟩) hS.2.2 dX1_readWork_148
        have hsp := itF hsp c216
        by_cases c218 : r2 = 62
        · have hsp := itT hsp c218
          refine lv_lookup (off := 49) (tgt := 149) hx hb dX1_readWork_100 (by decide) (by rw [c218]; decide) (by decide) ?_
          refine lv_aload_n hx hb dX1_readWork_149 rfl (lv_at hl 4 rfl) ?_
          obtain ⟨r219, hcr219, hsp⟩ := clE hsp
          refine call_z (w1 := [(a0, .inr (1, [.ref a1, .int g0_1, .int r219.2.1, .ref a2])), (a1, .inl (cI, 60, .inl f1)), (a2, .inr (3, [.int r215.1, .int r215.2.1, .int r219.2.2, .int r215.2.2.2.1, .ref a3]))]) (ws' := [(a0, .inr (1, [.ref a1, .int g0_1, .int r219.2.1, .ref a2])), (a1, .inl (cI, 60, .inl f1)), (a2, .inr (3, [.int r215.1, .int r215.2.1, .int r219.2.2, .int r215.2.2.2.1, .ref a3])), (a3, .inl (cI, 4, .inl r215.2.2.2.2))]) (va_runV (As := []) (rest := []) ⟨hx, hb, hml, hown, hts⟩ (k_X1_readOther l D cI cZ cC cS H.size a0 a1 a2 g0_1 x214 f1 (.int r215.1) (.int r215.2.1) r215.2.2.1 (.int r215.2.2.2.1) (.ref a3) r219 hcr219) (cwV 0 hts gX1_readWork_X1_readOther rfl rfl rfl nd_X1_readOther ⟨Nat.le_of_ble_eq_true rfl, Nat.le_of_ble_eq_true rfl⟩) (PB.preV (ci := 1) (q0 := 0) hKU hP hD [0, 1, 2] rfl rfl rfl rfl) rfl rfl hl.1 rfl (lv_room (Nat.le_of_ble_eq_true rfl)) dX1_readWork_150 ⟨Nat.zero_le _, Nat.zero_le _⟩) hS hP hD hA [0, 1, 2] rfl rfl (by first | (simp only [wset, List.set_cons_zero, List.set_cons_succ]; done) | rfl) rfl (fun H locs hP hD hS hzr219 => ?_)
          refine lv_if_eq (tgt := 180) hx hb dX1_readWork_153 (by decide) (fun c220 => ?_) (fun c220 => ?_)
          · have hsp := itT hsp c220
            refine lv_iconst (v := 0) hx hb dX1_readWork_180 (by decide) ?_
            have hres := Option.some.inj hsp
            subst hres
            exact W.zret (v := 0) hx hb hr (zE (Or.inl rfl)) (fun t ht hW => ⟨⟨0, (), rfl, ⟨rfl, (Or.inl rfl)⟩, P_at ht hP⟩, hS.F ht⟩) hS.2.2 dX1_readWork_181
          have hsp := itF hsp c220
          refine lv_aload_n hx hb dX1_readWork_156 rfl (lv_at hl 4 rfl) ?_
          refine lv_bipush (v := 58) hx hb dX1_readWork_157 (by decide) ?_
          obtain ⟨r221, hcr221, hsp⟩ := clE hsp
          refine call_z (w1 := [(a0, .inr (1, [.ref a1, .int g0_1, .int r221.2, .ref a2])), (a1, .inl (cI, 60, .inl f1))]) (ws' := [(a0, .inr (1, [.ref a1, .int g0_1, .int r221.2, .ref a2])), (a1, .inl (cI, 60, .inl f1)), (a2, .inr (3, [.int r215.1, .int r215.2.1, .int r219.2.2, .int r215.2.2.2.1, .ref a3])), (a3, .inl (cI, 4, .inl r215.2.2.2.2))]) (va_runV (As := [.int 58]) (rest := []) ⟨hx, hb, hml, hown, hts⟩ (k_X1_readSign l D cI cZ cC cS H.size a0 a1 g0_1 r219.2.1 (.ref a2) f1 58 r221 hcr221) (cwV 1 hts gX1_readWork_X1_readSign rfl rfl rfl nd_X1_readSign ⟨Nat.le_of_ble_eq_true rfl, Nat.le_of_ble_eq_true rfl⟩) (PB.preV (ci := 1) (q0 := 0) hKU hP hD [0, 1] rfl rfl rfl rfl) rfl rfl hl.1 rfl (lv_room (Nat.le_of_ble_eq_true rfl)) dX1_readWork_159 ⟨Nat.zero_le _, Nat.zero_le _⟩) hS hP hD hA [0, 1] rfl rfl (by first | (simp only [wset, List.set_cons_zero, List.set_cons_succ]; done) | rfl) rfl (fun H locs hP hD hS hzr221 => ?_)
          refine lv_if_eq (tgt := 180) hx hb dX1_readWork_162 (by decide) (fun c222 => ?_) (fun c222 => ?_)
          · have hsp := itT hsp c222
            refine lv_iconst (v := 0) hx hb dX1_readWork_180 (by decide) ?_
            have hres := Option.some.inj hsp
            subst hres
            exact W.zret (v := 0) hx hb hr (zE (Or.inl rfl)) (fun t ht hW => ⟨⟨0, (), rfl, ⟨rfl, (Or.inl rfl)⟩, P_at ht hP⟩, hS.F ht⟩) hS.2.2 dX1_readWork_181
          have hsp := itF hsp c222
          refine lv_aload_n hx hb dX1_readWork_165 rfl (lv_at hl 4 rfl) ?_
          refine lv_aload_n hx hb dX1_readWork_166 rfl (lv_at hl 4 rfl) ?_
          obtain ⟨r223, hcr223, hsp⟩ := clE hsp
          refine call_i (w1 := [(a0, .inr (1, [.ref a1, .int g0_1, .int r223.2, .ref a2])), (a1, .inl (cI, 60, .inl f1))]) (ws' := [(a0, .inr (1, [.ref a1, .int g0_1, .int r223.2, .ref a2])), (a1, .inl (cI, 60, .inl f1)), (a2, .inr (3, [.int r215.1, .int r215.2.1, .int r219.2.2, .int r215.2.2.2.1, .ref a3])), (a3, .inl (cI, 4, .inl r215.2.2.2.2))]) (va_runV (As := []) (rest := [.ref a0]) ⟨hx, hb, hml, hown, hts⟩ (k_X1_readNumber l D cI cZ cC cS H.size a0 a1 g0_1 r221.2 (.ref a2) f1 r223 hcr223) (cwV 0 hts gX1_readWork_X1_readNumber rfl rfl rfl nd_X1_readNumber ⟨Nat.le_of_ble_eq_true rfl, Nat.le_of_ble_eq_true rfl⟩) (PB.preV (ci := 1) (q0 := 0) hKU hP hD [0, 1] rfl rfl rfl rfl) rfl rfl hl.1 rfl (lv_room (Nat.le_of_ble_eq_true rfl)) dX1_readWork_167 ⟨Nat.zero_le _, Nat.zero_le _⟩) hS hP hD hA [0, 1] rfl rfl (by first | (simp only [wset, List.set_cons_zero, List.set_cons_succ]; done) | rfl) rfl (fun H locs hP hD hS => ?_)
          obtain ⟨r224, hcr224, hsp⟩ := clE hsp
          refine call_z (w1 := [(a0, .inr (1, [.ref a1, .int g0_1, .int r223.2, .ref a2])), (a2, .inr (3, [.int r215.1, .int r215.2.1, .int r219.2.2, .int r224.2, .ref a3]))]) (ws' := [(a0, .inr (1, [.ref a1, .int g0_1, .int r223.2, .ref a2])), (a1, .inl (cI, 60, .inl f1)), (a2, .inr (3, [.int r215.1, .int r215.2.1, .int r219.2.2, .int r224.2, .ref a3])), (a3, .inl (cI, 4, .inl r215.2.2.2.2))]) (va_runV (As := [.int r223.1]) (rest := []) ⟨hx, hb, hml, hown, hts⟩ (k_X1_readDrops l D cI cZ cC cS H.size a0 a2 (.ref a1) (.int g0_1) (.int r223.2) (.int r215.1) (.int r215.2.1) (.int r219.2.2) r215.2.2.2.1 (.ref a3) r223.1 r224 hcr224) (cwV 1 hts gX1_readWork_X1_readDrops rfl rfl rfl nd_X1_readDrops ⟨Nat.le_of_ble_eq_true rfl, Nat.le_of_ble_eq_true rfl⟩) (PB.preV (ci := 1) (q0 := 0) hKU hP hD [0, 2] rfl rfl rfl rfl) rfl rfl hl.1 rfl (lv_room (Nat.le_of_ble_eq_true rfl)) dX1_readWork_170 ⟨Nat.zero_le _, Nat.zero_le _⟩) hS hP hD hA [0, 2] rfl rfl (by first | (simp only [wset, List.set_cons_zero, List.set_cons_succ]; done) | rfl) rfl (fun H locs hP hD hS hzr224 => ?_)
          refine lv_if_eq (tgt := 180) hx hb dX1_readWork_173 (by decide) (fun c225 => ?_) (fun c225 => ?_)
          · have hsp := itT hsp c225
            refine lv_iconst (v := 0) hx hb dX1_readWork_180 (by decide) ?_
            have hres := Option.some.inj hsp
            subst hres
            exact W.zret (v := 0) hx hb hr (zE (Or.inl rfl)) (fun t ht hW => ⟨⟨0, (), rfl, ⟨rfl, (Or.inl rfl)⟩, P_at ht hP⟩, hS.F ht⟩) hS.2.2 dX1_readWork_181
          have hsp := itF hsp c225
          refine lv_iconst (v := 1) hx hb dX1_readWork_176 (by decide) ?_
          refine lv_goto (tgt := 181) hx hb dX1_readWork_177 (by decide) ?_
          have hres := Option.some.inj hsp
          subst hres
          exact W.zret (v := 1) hx hb hr (zE (Or.inr rfl)) (fun t ht hW => ⟨⟨1, (), rfl, ⟨rfl, (Or.inr rfl)⟩, P_at ht hP⟩, hS.F ht⟩) hS.2.2 dX1_readWork_181
        have hsp := itF hsp c218
        by_cases c226 : r2 = 100
        · have hsp := itT hsp c226
          refine lv_lookup (off := 82) (tgt := 182) hx hb dX1_readWork_100 (by decide) (by rw [c226]; decide) (by decide) ?_
          refine lv_aload_n hx hb dX1_readWork_182 rfl (lv_at hl 4 rfl) ?_
          refine lv_bipush (v := 8) hx hb dX1_readWork_183 (by decide) ?_
          obtain ⟨r227, hcr227, hsp⟩ := clE hsp
          refine call_z (w1 := [(a0, .inr (1, [.ref a1, .int g0_1, .int r227.2.1, .ref a2])), (a1, .inl (cI, 60, .inl f1)), (a2, .inr (3, [.int r215.1, .int r227.2.2, .int r215.2.2.1, .int r215.2.2.2.1, .ref a3]))]) (ws' := [(a0, .inr (1, [.ref a1, .int g0_1, .int r227.2.1, .ref a2])), (a1, .inl (cI, 60, .inl f1)), (a2, .inr (3, [.int r215.1, .int r227.2.2, .int r215.2.2.1, .int r215.2.2.2.1, .ref a3])), (a3, .inl (cI, 4, .inl r215.2.2.2.2))]) (va_runV (As := [.int 8]) (rest := []) ⟨hx, hb, hml, hown, hts⟩ (k_X1_readTarget l D cI cZ cC cS H.size a0 a1 a2 g0_1 x214 f1 (.int r215.1) r215.2.1 (.int r215.2.2.1) (.int r215.2.2.2.1) (.ref a3) 8 r227 hcr227) (cwV 1 hts gX1_readWork_X1_readTarget rfl rfl rfl nd_X1_readTarget ⟨Nat.le_of_ble_eq_true rfl, Nat.le_of_ble_eq_true rfl⟩) (PB.preV (ci := 1) (q0 := 0) hKU hP hD [0, 1, 2] rfl rfl rfl rfl) rfl rfl hl.1 rfl (lv_room (Nat.le_of_ble_eq_true rfl)) dX1_readWork_185 ⟨Nat.zero_le _, Nat.zero_le _⟩) hS hP hD hA [0, 1, 2] rfl rfl (by first | (simp only [wset, List.set_cons_zero, List.set_cons_succ]; done) | rfl) rfl (fun H locs hP hD hS hzr227 => ?_)
          refine lv_if_eq (tgt := 218) hx hb dX1_readWork_188 (by decide) (fun c228 => ?_) (fun c228 => ?_)
          · have hsp := itT hsp c228
            refine lv_iconst (v := 0) hx hb dX1_readWork_218 (by decide) ?_
            have hres := Option.some.inj hsp
            subst hres
            exact W.zret (v := 0) hx hb hr (zE (Or.inl rfl)) (fun t ht hW => ⟨⟨0, (), rfl, ⟨rfl, (Or.inl rfl)⟩, P_at ht hP⟩, hS.F ht⟩) hS.2.2 dX1_readWork_219
          have hsp := itF hsp c228
          refine lv_aload_n hx hb dX1_readWork_191 rfl (lv_at hl 4 rfl) ?_
          refine lv_bipush (v := 58) hx hb dX1_readWork_192 (by decide) ?_
          obtain ⟨r229, hcr229, hsp⟩ := clE hsp
          refine call_z (w1 := [(a0, .inr (1, [.ref a1, .int g0_1, .int r229.2, .ref a2])), (a1, .inl (cI, 60, .inl f1))]) (ws' := [(a0, .inr (1, [.ref a1, .int g0_1, .int r229.2, .ref a2])), (a1, .inl (cI, 60, .inl f1)), (a2, .inr (3, [.int r215.1, .int r227.2.2, .int r215.2.2.1, .int r215.2.2.2.1, .ref a3])), (a3, .inl (cI, 4, .inl r215.2.2.2.2))]) (va_runV (As := [.int 58]) (rest := []) ⟨hx, hb, hml, hown, hts⟩ (k_X1_readSign l D cI cZ cC cS H.size a0 a1 g0_1 r227.2.1 (.ref a2) f1 58 r229 hcr229) (cwV 1 hts gX1_readWork_X1_readSign rfl rfl rfl nd_X1_readSign ⟨Nat.le_of_ble_eq_true rfl, Nat.le_of_ble_eq_true rfl⟩) (PB.preV (ci := 1) (q0 := 0) hKU hP hD [0, 1] rfl rfl rfl rfl) rfl rfl hl.1 rfl (lv_room (Nat.le_of_ble_eq_true rfl)) dX1_readWork_194 ⟨Nat.zero_le _, Nat.zero_le _⟩) hS hP hD hA [0, 1] rfl rfl (by first | (simp only [wset, List.set_cons_zero, List.set_cons_succ]; done) | rfl) rfl (fun H locs hP hD hS hzr229 => ?_)
          refine lv_if_eq (tgt := 218) hx hb dX1_readWork_197 (by decide) (fun c230 => ?_) (fun c230 => ?_)
          · have hsp := itT hsp c230
            refine lv_iconst (v := 0) hx hb dX1_readWork_218 (by decide) ?_
            have hres := Option.some.inj hsp
            subst hres
            exact W.zret (v := 0) hx hb hr (zE (Or.inl rfl)) (fun t ht hW => ⟨⟨0, (), rfl, ⟨rfl, (Or.inl rfl)⟩, P_at ht hP⟩, hS.F ht⟩) hS.2.2 dX1_readWork_219
          have hsp := itF hsp c230
          refine lv_aload_n hx hb dX1_readWork_200 rfl (lv_at hl 4 rfl) ?_
          refine lv_aload_n hx hb dX1_readWork_201 rfl (lv_at hl 4 rfl) ?_
          refine lv_iconst (v := 1) hx hb dX1_readWork_202 (by decide) ?_
          refine lv_bipush (v := 9) hx hb dX1_readWork_203 (by decide) ?_
          obtain ⟨r231, hcr231, hsp⟩ := clE hsp
          refine call_i (w1 := [(a0, .inr (1, [.ref a1, .int g0_1, .int r231.2, .ref a2])), (a1, .inl (cI, 60, .inl f1))]) (ws' := [(a0, .inr (1, [.ref a1, .int g0_1, .int r231.2, .ref a2])), (a1, .inl (cI, 60, .inl f1)), (a2, .inr (3, [.int r215.1, .int r227.2.2, .int r215.2.2.1, .int r215.2.2.2.1, .ref a3])), (a3, .inl (cI, 4, .inl r215.2.2.2.2))]) (va_runV (As := [.int 1, .int 9]) (rest := [.ref a0]) ⟨hx, hb, hml, hown, hts⟩ (k_X1_readDigit l D cI cZ cC cS H.size a0 a1 g0_1 r229.2 (.ref a2) f1 1 9 r231 hcr231) (cwV 2 hts gX1_readWork_X1_readDigit rfl rfl rfl nd_X1_readDigit ⟨Nat.le_of_ble_eq_true rfl, Nat.le_of_ble_eq_true rfl⟩) (PB.preV (ci := 1) (q0 := 0) hKU hP hD [0, 1] rfl rfl rfl rfl) rfl rfl hl.1 rfl (lv_room (Nat.le_of_ble_eq_true rfl)) dX1_readWork_205 ⟨Nat.zero_le _, Nat.zero_le _⟩) hS hP hD hA [0, 1] rfl rfl (by first | (simp only [wset, List.set_cons_zero, List.set_cons_succ]; done) | rfl) rfl (fun H locs hP hD hS => ?_)
          obtain ⟨r232, hcr232, hsp⟩ := clE hsp
          refine call_z (w1 := [(a0, .inr (1, [.ref a1, .int g0_1, .int r231.2, .ref a2])), (a2, .inr (3, [.int r215.1, .int r227.2.2, .int r215.2.2.1, .int r232.2, .ref a3]))]) (ws' := [(a0, .inr (1, [.ref a1, .int g0_1, .int r231.2, .ref a2])), (a1, .inl (cI, 60, .inl f1)), (a2, .inr (3, [.int r215.1, .int r227.2.2, .int r215.2.2.1, .int r232.2, .ref a3])), (a3, .inl (cI, 4, .inl r215.2.2.2.2))]) (va_runV (As := [.int r231.1]) (rest := []) ⟨hx, hb, hml, hown, hts⟩ (k_X1_readDrops l D cI cZ cC cS H.size a0 a2 (.ref a1) (.int g0_1) (.int r231.2) (.int r215.1) (.int r227.2.2) (.int r215.2.2.1) r215.2.2.2.1 (.ref a3) r231.1 r232 hcr232) (cwV 1 hts gX1_readWork_X1_readDrops rfl rfl rfl nd_X1_readDrops ⟨Nat.le_of_ble_eq_true rfl, Nat.le_of_ble_eq_true rfl⟩) (PB.preV (ci := 1) (q0 := 0) hKU hP hD [0, 2] rfl rfl rfl rfl) rfl rfl hl.1 rfl (lv_room (Nat.le_of_ble_eq_true rfl)) dX1_readWork_208 ⟨Nat.zero_le _, Nat.zero_le _⟩) hS hP hD hA [0, 2] rfl rfl (by first | (simp only [wset, List.set_cons_zero, List.set_cons_succ]; done) | rfl) rfl (fun H locs hP hD hS hzr232 => ?_)
          refine lv_if_eq (tgt := 218) hx hb dX1_readWork_211 (by decide) (fun c233 => ?_) (fun c233 => ?_)
          · have hsp := itT hsp c233
            refine lv_iconst (v := 0) hx hb dX1_readWork_218 (by decide) ?_
            have hres := Option.some.inj hsp
            subst hres
            exact W.zret (v := 0) hx hb hr (zE (Or.inl rfl)) (fun t ht hW => ⟨⟨0, (), rfl, ⟨rfl, (Or.inl rfl)⟩, P_at ht hP⟩, hS.F ht⟩) hS.2.2 dX1_readWork_219
          have hsp := itF hsp c233
          refine lv_iconst (v := 1) hx hb dX1_readWork_214 (by decide) ?_
          refine lv_goto (tgt := 219) hx hb dX1_readWork_215 (by decide) ?_
          have hres := Option.some.inj hsp
          subst hres
          exact W.zret (v := 1) hx hb hr (zE (Or.inr rfl)) (fun t ht hW => ⟨⟨1, (), rfl, ⟨rfl, (Or.inr rfl)⟩, P_at ht hP⟩, hS.F ht⟩) hS.2.2 dX1_readWork_219
        have hsp := itF hsp c226
        by_cases c234 : r2 = 112
        · have hsp := itT hsp c234
          refine lv_lookup (off := 120) (tgt := 220) hx hb dX1_readWork_100 (by decide) (by rw [c234]; decide) (by decide) ?_
          refine lv_aload_n hx hb dX1_readWork_220 rfl (lv_at hl 4 rfl) ?_
          refine lv_bipush (v := 6) hx hb dX1_readWork_221 (by decide) ?_
          obtain ⟨r235, hcr235, hsp⟩ := clE hsp
          refine call_z (w1 := [(a0, .inr (1, [.ref a1, .int g0_1, .int r235.2.1, .ref a2])), (a1, .inl (cI, 60, .inl f1)), (a2, .inr (3, [.int r215.1, .int r235.2.2, .int r215.2.2.1, .int r215.2.2.2.1, .ref a3]))]) (ws' := [(a0, .inr (1, [.ref a1, .int g0_1, .int r235.2.1, .ref a2])), (a1, .inl (cI, 60, .inl f1)), (a2, .inr (3, [.int r215.1, .int r235.2.2, .int r215.2.2.1, .int r215.2.2.2.1, .ref a3])), (a3, .inl (cI, 4, .inl r215.2.2.2.2))]) (va_runV (As := [.int 6]) (rest := []) ⟨hx, hb, hml, hown, hts⟩ (k_X1_readTarget l D cI cZ cC cS H.size a0 a1 a2 g0_1 x214 f1 (.int r215.1) r215.2.1 (.int r215.2.2.1) (.int r215.2.2.2.1) (.ref a3) 6 r235 hcr235) (cwV 1 hts gX1_readWork_X1_readTarget rfl rfl rfl nd_X1_readTarget ⟨Nat.le_of_ble_eq_true rfl, Nat.le_of_ble_eq_true rfl⟩) (PB.preV (ci := 1) (q0 := 0) hKU hP hD [0, 1, 2] rfl rfl rfl rfl) rfl rfl hl.1 rfl (lv_room (Nat.le_of_ble_eq_true rfl)) dX1_readWork_223 ⟨Nat.zero_le _, Nat.zero_le _⟩) hS hP hD hA [0, 1, 2] rfl rfl (by first | (simp only [wset, List.set_cons_zero, List.set_cons_succ]; done) | rfl) rfl (fun H locs hP hD hS hzr235 => ?_)
          have hres := Option.some.inj hsp
          subst hres
          exact W.zret (v := r235.1) hx hb hr (zE hzr235) (fun t ht hW => ⟨⟨r235.1, (), rfl, ⟨rfl, hzr235⟩, P_at ht hP⟩, hS.F ht⟩) hS.2.2 dX1_readWork_226
        have hsp := itF hsp c234
        refine lv_lookup (off := 127) (tgt := 227) hx hb dX1_readWork_100 (by decide) ((lv_osw c216 (by decide)).trans ((lv_osw c218 (by decide)).trans ((lv_osw c226 (by decide)).trans ((lv_osw c234 (by decide)).trans rfl)))) (by decide) ?_
        refine lv_iconst (v := 1) hx hb dX1_readWork_227 (by decide) ?_
        have hres := Option.some.inj hsp
        subst hres
        exact W.zret (v := 1) hx hb hr (zE (Or.inr rfl)) (fun t ht hW => ⟨⟨1, (), rfl, ⟨rfl, (Or.inr rfl)⟩, P_at ht hP⟩, hS.F ht⟩) hS.2.2 dX1_readWork_228
      have hsp := itF hsp c213
      refine lv_iload_n hx hb dX1_readWork_66 rfl (lv_at hl 1 rfl) ?_
      refine lv_if_ne (tgt := 80) hx hb dX1_readWork_67 (by decide) (fun _ => ?_) (fun hc => absurd hc (by decide))
      refine lv_aload_n hx hb dX1_readWork_80 rfl (lv_at hl 4 rfl) ?_
      refine lv_dup hx hb dX1_readWork_81 rfl ?_
      refine va_get (D := D) (ci := 1) (v := .int r1.2) (C := RX1) (T := TX1) (N := 4) hx hb hts hi_X1 hown hK hP 0 rfl rfl 2 (by decide) hf_19 (fun _ h9 => h9) rfl dX1_readWork_82 ?_
      refine lv_iconst (v := 1) hx hb dX1_readWork_85 (by decide) ?_
      refine lv_iadd hx hb dX1_readWork_86 ?_
      obtain ⟨x236, ex236, hsp⟩ := nmE hsp
      refine r_top ex236 ?_
      refine va_put (D := D) (ci := 1) (v := .int x236) (ty := .int) (C := RX1) (T := TX1) (N := 4) hx hb hts hi_X1 tyX1 tyX1_ok nmX1 hown hK hP hD hS 0 rfl rfl 2 (by decide) hf_19 (fun _ h9 => h9) rfl (by decide +kernel) rfl rfl (Nat.le_of_ble_eq_true rfl) dX1_readWork_87 (fun H locs hP hD hS => ?_)
      have hP : va_P D vwCl [(a0, .inr (1, [.ref a1, .int g0_1, .int x236, .ref a2])), (a1, .inl (cI, 60, .inl f1)), (a2, .inr (3, [.int g2_0, .int g2_1, .int g2_2, .int g2_3, .ref a3])), (a3, .inl (cI, 4, .inl f3))] H := hP
      have hD : va_D A [(a0, .inr (1, [.ref a1, .int g0_1, .int x236, .ref a2])), (a1, .inl (cI, 60, .inl f1)), (a2, .inr (3, [.int g2_0, .int g2_1, .int g2_2, .int g2_3, .ref a3])), (a3, .inl (cI, 4, .inl f3))] := hD
      refine lv_aload_n hx hb dX1_readWork_90 rfl (lv_at hl 4 rfl) ?_
      refine va_get (D := D) (ci := 1) (v := .ref a2) (C := RX1) (T := TX1) (N := 4) hx hb hts hi_X1 hown hK hP 0 rfl rfl 3 (by decide) hf_25 (fun _ h9 => h9) rfl dX1_readWork_91 ?_
      refine lv_iload_n hx hb dX1_readWork_94 rfl (lv_at hl 2 rfl) ?_
      refine lv_iload_n hx hb dX1_readWork_95 rfl (lv_at hl 3 rfl) ?_
      obtain ⟨r237, hcr237, hsp⟩ := clE hsp
      refine call_v (w1 := [(a2, .inr (3, [.int r237.1, .int r237.2.1, .int r237.2.2.1, .int r237.2.2.2.1, .ref a3])), (a3, .inl (cI, 4, .inl r237.2.2.2.2))]) (ws' := [(a0, .inr (1, [.ref a1, .int g0_1, .int x236, .ref a2])), (a1, .inl (cI, 60, .inl f1)), (a2, .inr (3, [.int r237.1, .int r237.2.1, .int r237.2.2.1, .int r237.2.2.2.1, .ref a3])), (a3, .inl (cI, 4, .inl r237.2.2.2.2))]) (va_runV (As := [.int r2, .int r1.1]) (rest := []) ⟨hx, hb, hml, hown, hts⟩ (k_X3_begin l D cI cZ cC cS H.size a2 a3 g2_0 g2_1 g2_2 g2_3 f3 r2 r1.1 r237 hcr237) (cwV 2 hts gX1_readWork_X3_begin rfl rfl rfl nd_X3_begin ⟨Nat.le_of_ble_eq_true rfl, Nat.le_of_ble_eq_true rfl⟩) (PB.preV (ci := 3) (q0 := 2) hKU hP hD [2, 3] rfl rfl rfl rfl) rfl rfl hl.1 rfl (lv_room (Nat.le_of_ble_eq_true rfl)) dX1_readWork_96 ⟨Nat.zero_le _, Nat.zero_le _⟩) hS hP hD hA [2, 3] rfl rfl (by first | (simp only [wset, List.set_cons_zero, List.set_cons_succ]; done) | rfl) rfl (fun H locs hP hD hS => ?_)
      refine lv_iload_n hx hb dX1_readWork_99 rfl (lv_at hl 2 rfl) ?_
      by_cases c238 : r2 = 43
      · have hsp := itT hsp c238
        refine lv_lookup (off := 44) (tgt := 144) hx hb dX1_readWork_100 (by decide) (by rw [c238]; decide) (by decide) ?_
        refine lv_aload_n hx hb dX1_readWork_144 rfl (lv_at hl 4 rfl) ?_
        obtain ⟨r239, hcr239, hsp⟩ := clE hsp
        refine call_z (w1 := [(a0, .inr (1, [.ref a1, .int g0_1, .int r239.2.1, .ref a2])), (a1, .inl (cI, 60, .inl f1)), (a2, .inr (3, [.int r237.1, .int r237.2.1, .int r237.2.2.1, .int r237.2.2.2.1, .ref a3])), (a3, .inl (cI, 4, .inl r239.2.2))]) (ws' := [(a0, .inr (1, [.ref a1, .int g0_1, .int r239.2.1, .ref a2])), (a1, .inl (cI, 60, .inl f1)), (a2, .inr (3, [.int r237.1, .int r237.2.1, .int r237.2.2.1, .int r237.2.2.2.1, .ref a3])), (a3, .inl (cI, 4, .inl r239.2.2))]) (va_runV (As := []) (rest := []) ⟨hx, hb, hml, hown, hts⟩ (k_X1_readKinds l D cI cZ cC cS H.size a0 a1 a2 a3 g0_1 x236 f1 (.int r237.1) (.int r237.2.1) (.int r237.2.2.1) (.int r237.2.2.2.1) r237.2.2.2.2 r239 hcr239) (cwV 0 hts gX1_readWork_X1_readKinds rfl rfl rfl nd_X1_readKinds ⟨Nat.le_of_ble_eq_true rfl, Nat.le_of_ble_eq_true rfl⟩) (PB.preV (ci := 1) (q0 := 0) hKU hP hD [0, 1, 2, 3] rfl rfl rfl rfl) rfl rfl hl.1 rfl (lv_room (Nat.le_of_ble_eq_true rfl)) dX1_readWork_145 ⟨Nat.zero_le _, Nat.zero_le _⟩) hS hP hD hA [0, 1, 2, 3] rfl rfl (by first | (simp only [wset, List.set_cons_zero, List.set_cons_succ]; done) | rfl) rfl (fun H locs hP hD hS hzr239 => ?_)
        have hres := Option.some.inj hsp
        subst hres
        exact W.zret (v := r239.1) hx hb hr (zE hzr239) (fun t ht hW => ⟨⟨r239.1, (), rfl, ⟨rfl, hzr239⟩, P_at ht hP⟩, hS.F ht⟩) hS.2.2 dX1_readWork_148
      have hsp := itF hsp c238
      by_cases c240 : r2 = 62
      · have hsp := itT hsp c240
        refine lv_lookup (off := 49) (tgt := 149) hx hb dX1_readWork_100 (by decide) (by rw [c240]; decide) (by decide) ?_
        refine lv_aload_n hx hb dX1_readWork_149 rfl (lv_at hl 4 rfl) ?_
        obtain ⟨r241, hcr241, hsp⟩ := clE hsp
        refine call_z (w1 := [(a0, .inr (1, [.ref a1, .int g0_1, .int r241.2.1, .ref a2])), (a1, .inl (cI, 60, .inl f1)), (a2, .inr (3, [.int r237.1, .int r237.2.1, .int r241.2.2, .int r237.2.2.2.1, .ref a3]))]) (ws' := [(a0, .inr (1, [.ref a1, .int g0_1, .int r241.2.1, .ref a2])), (a1, .inl (cI, 60, .inl f1)), (a2, .inr (3, [.int r237.1, .int r237.2.1, .int r241.2.2, .int r237.2.2.2.1, .ref a3])), (a3, .inl (cI, 4, .inl r237.2.2.2.2))]) (va_runV (As := []) (rest := []) ⟨hx, hb, hml, hown, hts⟩ (k_X1_readOther l D cI cZ cC cS H.size a0 a1 a2 g0_1 x236 f1 (.int r237.1) (.int r237.2.1) r237.2.2.1 (.int r237.2.2.2.1) (.ref a3) r241 hcr241) (cwV 0 hts gX1_readWork_X1_readOther rfl rfl rfl nd_X1_readOther ⟨Nat.le_of_ble_eq_true rfl, Nat.le_of_ble_eq_true rfl⟩) (PB.preV (ci := 1) (q0 := 0) hKU hP hD [0, 1, 2] rfl rfl rfl rfl) rfl rfl hl.1 rfl (lv_room (Nat.le_of_ble_eq_true rfl)) dX1_readWork_150 ⟨Nat.zero_le _, Nat.zero_le _⟩) hS hP hD hA [0, 1, 2] rfl rfl (by first | (simp only [wset, List.set_cons_zero, List.set_cons_succ]; done) | rfl) rfl (fun H locs hP hD hS hzr241 => ?_)
        refine lv_if_eq (tgt := 180) hx hb dX1_readWork_153 (by decide) (fun c242 => ?_) (fun c242 => ?_)
        · have hsp := itT hsp c242
          refine lv_iconst (v := 0) hx hb dX1_readWork_180 (by decide) ?_
          have hres := Option.some.inj hsp
          subst hres
          exact W.zret (v := 0) hx hb hr (zE (Or.inl rfl)) (fun t ht hW => ⟨⟨0, (), rfl, ⟨rfl, (Or.inl rfl)⟩, P_at ht hP⟩, hS.F ht⟩) hS.2.2 dX1_readWork_181
        have hsp := itF hsp c242
        refine lv_aload_n hx hb dX1_readWork_156 rfl (lv_at hl 4 rfl) ?_
        refine lv_bipush (v := 58) hx hb dX1_readWork_157 (by decide) ?_
        obtain ⟨r243, hcr243, hsp⟩ := clE hsp
        refine call_z (w1 := [(a0, .inr (1, [.ref a1, .int g0_1, .int r243.2, .ref a2])), (a1, .inl (cI, 60, .inl f1))]) (ws' := [(a0, .inr (1, [.ref a1, .int g0_1, .int r243.2, .ref a2])), (a1, .inl (cI, 60, .inl f1)), (a2, .inr (3, [.int r237.1, .int r237.2.1, .int r241.2.2, .int r237.2.2.2.1, .ref a3])), (a3, .inl (cI, 4, .inl r237.2.2.2.2))]) (va_runV (As := [.int 58]) (rest := []) ⟨hx, hb, hml, hown, hts⟩ (k_X1_readSign l D cI cZ cC cS H.size a0 a1 g0_1 r241.2.1 (.ref a2) f1 58 r243 hcr243) (cwV 1 hts gX1_readWork_X1_readSign rfl rfl rfl nd_X1_readSign ⟨Nat.le_of_ble_eq_true rfl, Nat.le_of_ble_eq_true rfl⟩) (PB.preV (ci := 1) (q0 := 0) hKU hP hD [0, 1] rfl rfl rfl rfl) rfl rfl hl.1 rfl (lv_room (Nat.le_of_ble_eq_true rfl)) dX1_readWork_159 ⟨Nat.zero_le _, Nat.zero_le _⟩) hS hP hD hA [0, 1] rfl rfl (by first | (simp only [wset, List.set_cons_zero, List.set_cons_succ]; done) | rfl) rfl (fun H locs hP hD hS hzr243 => ?_)
        refine lv_if_eq (tgt := 180) hx hb dX1_readWork_162 (by decide) (fun c244 => ?_) (fun c244 => ?_)
        · have hsp := itT hsp c244
          refine lv_iconst (v := 0) hx hb dX1_readWork_180 (by decide) ?_
          have hres := Option.some.inj hsp
          subst hres
          exact W.zret (v := 0) hx hb hr (zE (Or.inl rfl)) (fun t ht hW => ⟨⟨0, (), rfl, ⟨rfl, (Or.inl rfl)⟩, P_at ht hP⟩, hS.F ht⟩) hS.2.2 dX1_readWork_181
        have hsp := itF hsp c244
        refine lv_aload_n hx hb dX1_readWork_165 rfl (lv_at hl 4 rfl) ?_
        refine lv_aload_n hx hb dX1_readWork_166 rfl (lv_at hl 4 rfl) ?_
        obtain ⟨r245, hcr245, hsp⟩ := clE hsp
        refine call_i (w1 := [(a0, .inr (1, [.ref a1, .int g0_1, .int r245.2, .ref a2])), (a1, .inl (cI, 60, .inl f1))]) (ws' := [(a0, .inr (1, [.ref a1, .int g0_1, .int r245.2, .ref a2])), (a1, .inl (cI, 60, .inl f1)), (a2, .inr (3, [.int r237.1, .int r237.2.1, .int r241.2.2, .int r237.2.2.2.1, .ref a3])), (a3, .inl (cI, 4, .inl r237.2.2.2.2))]) (va_runV (As := []) (rest := [.ref a0]) ⟨hx, hb, hml, hown, hts⟩ (k_X1_readNumber l D cI cZ cC cS H.size a0 a1 g0_1 r243.2 (.ref a2) f1 r245 hcr245) (cwV 0 hts gX1_readWork_X1_readNumber rfl rfl rfl nd_X1_readNumber ⟨Nat.le_of_ble_eq_true rfl, Nat.le_of_ble_eq_true rfl⟩) (PB.preV (ci := 1) (q0 := 0) hKU hP hD [0, 1] rfl rfl rfl rfl) rfl rfl hl.1 rfl (lv_room (Nat.le_of_ble_eq_true rfl)) dX1_readWork_167 ⟨Nat.zero_le _, Nat.zero_le _⟩) hS hP hD hA [0, 1] rfl rfl (by first | (simp only [wset, List.set_cons_zero, List.set_cons_succ]; done) | rfl) rfl (fun H locs hP hD hS => ?_)
        obtain ⟨r246, hcr246, hsp⟩ := clE hsp
        refine call_z (w1 := [(a0, .inr (1, [.ref a1, .int g0_1, .int r245.2, .ref a2])), (a2, .inr (3, [.int r237.1, .int r237.2.1, .int r241.2.2, .int r246.2, .ref a3]))]) (ws' := [(a0, .inr (1, [.ref a1, .int g0_1, .int r245.2, .ref a2])), (a1, .inl (cI, 60, .inl f1)), (a2, .inr (3, [.int r237.1, .int r237.2.1, .int r241.2.2, .int r246.2, .ref a3])), (a3, .inl (cI, 4, .inl r237.2.2.2.2))]) (va_runV (As := [.int r245.1]) (rest := []) ⟨hx, hb, hml, hown, hts⟩ (k_X1_readDrops l D cI cZ cC cS H.size a0 a2 (.ref a1) (.int g0_1) (.int r245.2) (.int r237.1) (.int r237.2.1) (.int r241.2.2) r237.2.2.2.1 (.ref a3) r245.1 r246 hcr246) (cwV 1 hts gX1_readWork_X1_readDrops rfl rfl rfl nd_X1_readDrops ⟨Nat.le_of_ble_eq_true rfl, Nat.le_of_ble_eq_true rfl⟩) (PB.preV (ci := 1) (q0 := 0) hKU hP hD [0, 2] rfl rfl rfl rfl) rfl rfl hl.1 rfl (lv_room (Nat.le_of_ble_eq_true rfl)) dX1_readWork_170 ⟨Nat.zero_le _, Nat.zero_le _⟩) hS hP hD hA [0, 2] rfl rfl (by first | (simp only [wset, List.set_cons_zero, List.set_cons_succ]; done) | rfl) rfl (fun H locs hP hD hS hzr246 => ?_)
        refine lv_if_eq (tgt := 180) hx hb dX1_readWork_173 (by decide) (fun c247 => ?_) (fun c247 => ?_)
        · have hsp := itT hsp c247
          refine lv_iconst (v := 0) hx hb dX1_readWork_180 (by decide) ?_
          have hres := Option.some.inj hsp
          subst hres
          exact W.zret (v := 0) hx hb hr (zE (Or.inl rfl)) (fun t ht hW => ⟨⟨0, (), rfl, ⟨rfl, (Or.inl rfl)⟩, P_at ht hP⟩, hS.F ht⟩) hS.2.2 dX1_readWork_181
        have hsp := itF hsp c247
        refine lv_iconst (v := 1) hx hb dX1_readWork_176 (by decide) ?_
        refine lv_goto (tgt := 181) hx hb dX1_readWork_177 (by decide) ?_
        have hres := Option.some.inj hsp
        subst hres
        exact W.zret (v := 1) hx hb hr (zE (Or.inr rfl)) (fun t ht hW => ⟨⟨1, (), rfl, ⟨rfl, (Or.inr rfl)⟩, P_at ht hP⟩, hS.F ht⟩) hS.2.2 dX1_readWork_181
      have hsp := itF hsp c240
      by_cases c248 : r2 = 100
      · have hsp := itT hsp c248
        refine lv_lookup (off := 82) (tgt := 182) hx hb dX1_readWork_100 (by decide) (by rw [c248]; decide) (by decide) ?_
        refine lv_aload_n hx hb dX1_readWork_182 rfl (lv_at hl 4 rfl) ?_
        refine lv_bipush (v := 8) hx hb dX1_readWork_183 (by decide) ?_
        obtain ⟨r249, hcr249, hsp⟩ := clE hsp
        refine call_z (w1 := [(a0, .inr (1, [.ref a1, .int g0_1, .int r249.2.1, .ref a2])), (a1, .inl (cI, 60, .inl f1)), (a2, .inr (3, [.int r237.1, .int r249.2.2, .int r237.2.2.1, .int r237.2.2.2.1, .ref a3]))]) (ws' := [(a0, .inr (1, [.ref a1, .int g0_1, .int r249.2.1, .ref a2])), (a1, .inl (cI, 60, .inl f1)), (a2, .inr (3, [.int r237.1, .int r249.2.2, .int r237.2.2.1, .int r237.2.2.2.1, .ref a3])), (a3, .inl (cI, 4, .inl r237.2.2.2.2))]) (va_runV (As := [.int 8]) (rest := []) ⟨hx, hb, hml, hown, hts⟩ (k_X1_readTarget l D cI cZ cC cS H.size a0 a1 a2 g0_1 x236 f1 (.int r237.1) r237.2.1 (.int r237.2.2.1) (.int r237.2.2.2.1) (.ref a3) 8 r249 hcr249) (cwV 1 hts gX1_readWork_X1_readTarget rfl rfl rfl nd_X1_readTarget ⟨Nat.le_of_ble_eq_true rfl, Nat.le_of_ble_eq_true rfl⟩) (PB.preV (ci := 1) (q0 := 0) hKU hP hD [0, 1, 2] rfl rfl rfl rfl) rfl rfl hl.1 rfl (lv_room (Nat.le_of_ble_eq_true rfl)) dX1_readWork_185 ⟨Nat.zero_le _, Nat.zero_le _⟩) hS hP hD hA [0, 1, 2] rfl rfl (by first | (simp only [wset, List.set_cons_zero, List.set_cons_succ]; done) | rfl) rfl (fun H locs hP hD hS hzr249 => ?_)
        refine lv_if_eq (tgt := 218) hx hb dX1_readWork_188 (by decide) (fun c250 => ?_) (fun c250 => ?_)
        · have hsp := itT hsp c250
          refine lv_iconst (v := 0) hx hb dX1_readWork_218 (by decide) ?_
          have hres := Option.some.inj hsp
          subst hres
          exact W.zret (v := 0) hx hb hr (zE (Or.inl rfl)) (fun t ht hW => ⟨⟨0, (), rfl, ⟨rfl, (Or.inl rfl)⟩, P_at ht hP⟩, hS.F ht⟩) hS.2.2 dX1_readWork_219
        have hsp := itF hsp c250
        refine lv_aload_n hx hb dX1_readWork_191 rfl (lv_at hl 4 rfl) ?_
        refine lv_bipush (v := 58) hx hb dX1_readWork_192 (by decide) ?_
        obtain ⟨r251, hcr251, hsp⟩ := clE hsp
        refine call_z (w1 := [(a0, .inr (1, [.ref a1, .int g0_1, .int r251.2, .ref a2])), (a1, .inl (cI, 60, .inl f1))]) (ws' := [(a0, .inr (1, [.ref a1, .int g0_1, .int r251.2, .ref a2])), (a1, .inl (cI, 60, .inl f1)), (a2, .inr (3, [.int r237.1, .int r249.2.2, .int r237.2.2.1, .int r237.2.2.2.1, .ref a3])), (a3, .inl (cI, 4, .inl r237.2.2.2.2))]) (va_runV (As := [.int 58]) (rest := []) ⟨hx, hb, hml, hown, hts⟩ (k_X1_readSign l D cI cZ cC cS H.size a0 a1 g0_1 r249.2.1 (.ref a2) f1 58 r251 hcr251) (cwV 1 hts gX1_readWork_X1_readSign rfl rfl rfl nd_X1_readSign ⟨Nat.le_of_ble_eq_true rfl, Nat.le_of_ble_eq_true rfl⟩) (PB.preV (ci := 1) (q0 := 0) hKU hP hD [0, 1] rfl rfl rfl rfl) rfl rfl hl.1 rfl (lv_room (Nat.le_of_ble_eq_true rfl)) dX1_readWork_194 ⟨Nat.zero_le _, Nat.zero_le _⟩) hS hP hD hA [0, 1] rfl rfl (by first | (simp only [wset, List.set_cons_zero, List.set_cons_succ]; done) | rfl) rfl (fun H locs hP hD hS hzr251 => ?_)
        refine lv_if_eq (tgt := 218) hx hb dX1_readWork_197 (by decide) (fun c252 => ?_) (fun c252 => ?_)
        · have hsp := itT hsp c252
          refine lv_iconst (v := 0) hx hb dX1_readWork_218 (by decide) ?_
          have hres := Option.some.inj hsp
          subst hres
          exact W.zret (v := 0) hx hb hr (zE (Or.inl rfl)) (fun t ht hW => ⟨⟨0, (), rfl, ⟨rfl, (Or.inl rfl)⟩, P_at ht hP⟩, hS.F ht⟩) hS.2.2 dX1_readWork_219
        have hsp := itF hsp c252
        refine lv_aload_n hx hb dX1_readWork_200 rfl (lv_at hl 4 rfl) ?_
        refine lv_aload_n hx hb dX1_readWork_201 rfl (lv_at hl 4 rfl) ?_
        refine lv_iconst (v := 1) hx hb dX1_readWork_202 (by decide) ?_
        refine lv_bipush (v := 9) hx hb dX1_readWork_203 (by decide) ?_
        obtain ⟨r253, hcr253, hsp⟩ := clE hsp
        refine call_i (w1 := [(a0, .inr (1, [.ref a1, .int g0_1, .int r253.2, .ref a2])), (a1, .inl (cI, 60, .inl f1))]) (ws' := [(a0, .inr (1, [.ref a1, .int g0_1, .int r253.2, .ref a2])), (a1, .inl (cI, 60, .inl f1)), (a2, .inr (3, [.int r237.1, .int r249.2.2, .int r237.2.2.1, .int r237.2.2.2.1, .ref a3])), (a3, .inl (cI, 4, .inl r237.2.2.2.2))]) (va_runV (As := [.int 1, .int 9]) (rest := [.ref a0]) ⟨hx, hb, hml, hown, hts⟩ (k_X1_readDigit l D cI cZ cC cS H.size a0 a1 g0_1 r251.2 (.ref a2) f1 1 9 r253 hcr253) (cwV 2 hts gX1_readWork_X1_readDigit rfl rfl rfl nd_X1_readDigit ⟨Nat.le_of_ble_eq_true rfl, Nat.le_of_ble_eq_true rfl⟩) (PB.preV (ci := 1) (q0 := 0) hKU hP hD [0, 1] rfl rfl rfl rfl) rfl rfl hl.1 rfl (lv_room (Nat.le_of_ble_eq_true rfl)) dX1_readWork_205 ⟨Nat.zero_le _, Nat.zero_le _⟩) hS hP hD hA [0, 1] rfl rfl (by first | (simp only [wset, List.set_cons_zero, List.set_cons_succ]; done) | rfl) rfl (fun H locs hP hD hS => ?_)
        obtain ⟨r254, hcr254, hsp⟩ := clE hsp
        refine call_z (w1 := [(a0, .inr (1, [.ref a1, .int g0_1, .int r253.2, .ref a2])), (a2, .inr (3, [.int r237.1, .int r249.2.2, .int r237.2.2.1, .int r254.2, .ref a3]))]) (ws' := [(a0, .inr (1, [.ref a1, .int g0_1, .int r253.2, .ref a2])), (a1, .inl (cI, 60, .inl f1)), (a2, .inr (3, [.int r237.1, .int r249.2.2, .int r237.2.2.1, .int r254.2, .ref a3])), (a3, .inl (cI, 4, .inl r237.2.2.2.2))]) (va_runV (As := [.int r253.1]) (rest := []) ⟨hx, hb, hml, hown, hts⟩ (k_X1_readDrops l D cI cZ cC cS H.size a0 a2 (.ref a1) (.int g0_1) (.int r253.2) (.int r237.1) (.int r249.2.2) (.int r237.2.2.1) r237.2.2.2.1 (.ref a3) r253.1 r254 hcr254) (cwV 1 hts gX1_readWork_X1_readDrops rfl rfl rfl nd_X1_readDrops ⟨Nat.le_of_ble_eq_true rfl, Nat.le_of_ble_eq_true rfl⟩) (PB.preV (ci := 1) (q0 := 0) hKU hP hD [0, 2] rfl rfl rfl rfl) rfl rfl hl.1 rfl (lv_room (Nat.le_of_ble_eq_true rfl)) dX1_readWork_208 ⟨Nat.zero_le _, Nat.zero_le _⟩) hS hP hD hA [0, 2] rfl rfl (by first | (simp only [wset, List.set_cons_zero, List.set_cons_succ]; done) | rfl) rfl (fun H locs hP hD hS hzr254 => ?_)
        refine lv_if_eq (tgt := 218) hx hb dX1_readWork_211 (by decide) (fun c255 => ?_) (fun c255 => ?_)
        · have hsp := itT hsp c255
          refine lv_iconst (v := 0) hx hb dX1_readWork_218 (by decide) ?_
          have hres := Option.some.inj hsp
          subst hres
          exact W.zret (v := 0) hx hb hr (zE (Or.inl rfl)) (fun t ht hW => ⟨⟨0, (), rfl, ⟨rfl, (Or.inl rfl)⟩, P_at ht hP⟩, hS.F ht⟩) hS.2.2 dX1_readWork_219
        have hsp := itF hsp c255
        refine lv_iconst (v := 1) hx hb dX1_readWork_214 (by decide) ?_
        refine lv_goto (tgt := 219) hx hb dX1_readWork_215 (by decide) ?_
        have hres := Option.some.inj hsp
        subst hres
        exact W.zret (v := 1) hx hb hr (zE (Or.inr rfl)) (fun t ht hW => ⟨⟨1, (), rfl, ⟨rfl, (Or.inr rfl)⟩, P_at ht hP⟩, hS.F ht⟩) hS.2.2 dX1_readWork_219
      have hsp := itF hsp c248
      by_cases c256 : r2 = 112
      · have hsp := itT hsp c256
        refine lv_lookup (off := 120) (tgt := 220) hx hb dX1_readWork_100 (by decide) (by rw [c256]; decide) (by decide) ?_
        refine lv_aload_n hx hb dX1_readWork_220 rfl (lv_at hl 4 rfl) ?_
        refine lv_bipush (v := 6) hx hb dX1_readWork_221 (by decide) ?_
        obtain ⟨r257, hcr257, hsp⟩ := clE hsp
        refine call_z (w1 := [(a0, .inr (1, [.ref a1, .int g0_1, .int r257.2.1, .ref a2])), (a1, .inl (cI, 60, .inl f1)), (a2, .inr (3, [.int r237.1, .int r257.2.2, .int r237.2.2.1, .int r237.2.2.2.1, .ref a3]))]) (ws' := [(a0, .inr (1, [.ref a1, .int g0_1, .int r257.2.1, .ref a2])), (a1, .inl (cI, 60, .inl f1)), (a2, .inr (3, [.int r237.1, .int r257.2.2, .int r237.2.2.1, .int r237.2.2.2.1, .ref a3])), (a3, .inl (cI, 4, .inl r237.2.2.2.2))]) (va_runV (As := [.int 6]) (rest := []) ⟨hx, hb, hml, hown, hts⟩ (k_X1_readTarget l D cI cZ cC cS H.size a0 a1 a2 g0_1 x236 f1 (.int r237.1) r237.2.1 (.int r237.2.2.1) (.int r237.2.2.2.1) (.ref a3) 6 r257 hcr257) (cwV 1 hts gX1_readWork_X1_readTarget rfl rfl rfl nd_X1_readTarget ⟨Nat.le_of_ble_eq_true rfl, Nat.le_of_ble_eq_true rfl⟩) (PB.preV (ci := 1) (q0 := 0) hKU hP hD [0, 1, 2] rfl rfl rfl rfl) rfl rfl hl.1 rfl (lv_room (Nat.le_of_ble_eq_true rfl)) dX1_readWork_223 ⟨Nat.zero_le _, Nat.zero_le _⟩) hS hP hD hA [0, 1, 2] rfl rfl (by first | (simp only [wset, List.set_cons_zero, List.set_cons_succ]; done) | rfl) rfl (fun H locs hP hD hS hzr257 => ?_)
        have hres := Option.some.inj hsp
        subst hres
        exact W.zret (v := r257.1) hx hb hr (zE hzr257) (fun t ht hW => ⟨⟨r257.1, (), rfl, ⟨rfl, hzr257⟩, P_at ht hP⟩, hS.F ht⟩) hS.2.2 dX1_readWork_226
      have hsp := itF hsp c256
      refine lv_lookup (off := 127) (tgt := 227) hx hb dX1_readWork_100 (by decide) ((lv_osw c238 (by decide)).trans ((lv_osw c240 (by decide)).trans ((lv_osw c248 (by decide)).trans ((lv_osw c256 (by decide)).trans rfl)))) (by decide) ?_
      refine lv_iconst (v := 1) hx hb dX1_readWork_227 (by decide) ?_
      have hres := Option.some.inj hsp
      subst hres
      exact W.zret (v := 1) hx hb hr (zE (Or.inr rfl)) (fun t ht hW => ⟨⟨1, (), rfl, ⟨rfl, (Or.inr rfl)⟩, P_at ht hP⟩, hS.F ht⟩) hS.2.2 dX1_readWork_228
    have hsp := itF hsp c212
    refine lv_iload_n hx hb dX1_readWork_49 rfl (lv_at hl 1 rfl) ?_
    refine lv_bipush (v := 114) hx hb dX1_readWork_50 (by decide) ?_
    refine lv_icmp_ne (tgt := 59) hx hb dX1_readWork_52 (by decide) (fun c258 => ?_) (fun c258 => ?_)
    · have hsp := itF hsp c258
      refine lv_iconst (v := 0) hx hb dX1_readWork_59 (by decide) ?_
      refine lv_istore (lv' := [(4, .int 0), (3, .int 1), (2, .int r2), (1, .int r1.1), (0, .ref a0)]) hx hb dX1_readWork_60 hl (by decide) rfl (fun ls hl => ?_)
      refine lv_iload_n hx hb dX1_readWork_62 rfl (lv_at hl 3 rfl) ?_
      refine lv_if_lt (tgt := 73) hx hb dX1_readWork_63 (by decide) (fun c259 => ?_) (fun c259 => ?_)
      · have hsp := itT hsp c259
        refine lv_iload hx hb dX1_readWork_73 (lv_at hl 0 rfl) ?_
        refine lv_if_ne (tgt := 80) hx hb dX1_readWork_75 (by decide) (fun hc => absurd hc (by decide)) (fun _ => ?_)
        refine lv_iconst (v := 0) hx hb dX1_readWork_78 (by decide) ?_
        have hres := Option.some.inj hsp
        subst hres
        exact W.zret (v := 0) hx hb hr (zE (Or.inl rfl)) (fun t ht hW => ⟨⟨0, (), rfl, ⟨rfl, (Or.inl rfl)⟩, P_at ht hP⟩, hS.F ht⟩) hS.2.2 dX1_readWork_79
      have hsp := itF hsp c259
      refine lv_iload_n hx hb dX1_readWork_66 rfl (lv_at hl 1 rfl) ?_
      refine lv_if_ne (tgt := 80) hx hb dX1_readWork_67 (by decide) (fun _ => ?_) (fun hc => absurd hc (by decide))
      refine lv_aload_n hx hb dX1_readWork_80 rfl (lv_at hl 4 rfl) ?_
      refine lv_dup hx hb dX1_readWork_81 rfl ?_
      refine va_get (D := D) (ci := 1) (v := .int r1.2) (C := RX1) (T := TX1) (N := 4) hx hb hts hi_X1 hown hK hP 0 rfl rfl 2 (by decide) hf_19 (fun _ h9 => h9) rfl dX1_readWork_82 ?_
      refine lv_iconst (v := 1) hx hb dX1_readWork_85 (by decide) ?_
      refine lv_iadd hx hb dX1_readWork_86 ?_
      obtain ⟨x260, ex260, hsp⟩ := nmE hsp
      refine r_top ex260 ?_
      refine va_put (D := D) (ci := 1) (v := .int x260) (ty := .int) (C := RX1) (T := TX1) (N := 4) hx hb hts hi_X1 tyX1 tyX1_ok nmX1 hown hK hP hD hS 0 rfl rfl 2 (by decide) hf_19 (fun _ h9 => h9) rfl (by decide +kernel) rfl rfl (Nat.le_of_ble_eq_true rfl) dX1_readWork_87 (fun H locs hP hD hS => ?_)
      have hP : va_P D vwCl [(a0, .inr (1, [.ref a1, .int g0_1, .int x260, .ref a2])), (a1, .inl (cI, 60, .inl f1)), (a2, .inr (3, [.int g2_0, .int g2_1, .int g2_2, .int g2_3, .ref a3])), (a3, .inl (cI, 4, .inl f3))] H := hP
      have hD : va_D A [(a0, .inr (1, [.ref a1, .int g0_1, .int x260, .ref a2])), (a1, .inl (cI, 60, .inl f1)), (a2, .inr (3, [.int g2_0, .int g2_1, .int g2_2, .int g2_3, .ref a3])), (a3, .inl (cI, 4, .inl f3))] := hD
      refine lv_aload_n hx hb dX1_readWork_90 rfl (lv_at hl 4 rfl) ?_
      refine va_get (D := D) (ci := 1) (v := .ref a2) (C := RX1) (T := TX1) (N := 4) hx hb hts hi_X1 hown hK hP 0 rfl rfl 3 (by decide) hf_25 (fun _ h9 => h9) rfl dX1_readWork_91 ?_
      refine lv_iload_n hx hb dX1_readWork_94 rfl (lv_at hl 2 rfl) ?_
      refine lv_iload_n hx hb dX1_readWork_95 rfl (lv_at hl 3 rfl) ?_
      obtain ⟨r261, hcr261, hsp⟩ := clE hsp
      refine call_v (w1 := [(a2, .inr (3, [.int r261.1, .int r261.2.1, .int r261.2.2.1, .int r261.2.2.2.1, .ref a3])), (a3, .inl (cI, 4, .inl r261.2.2.2.2))]) (ws' := [(a0, .inr (1, [.ref a1, .int g0_1, .int x260, .ref a2])), (a1, .inl (cI, 60, .inl f1)), (a2, .inr (3, [.int r261.1, .int r261.2.1, .int r261.2.2.1, .int r261.2.2.2.1, .ref a3])), (a3, .inl (cI, 4, .inl r261.2.2.2.2))]) (va_runV (As := [.int r2, .int r1.1]) (rest := []) ⟨hx, hb, hml, hown, hts⟩ (k_X3_begin l D cI cZ cC cS H.size a2 a3 g2_0 g2_1 g2_2 g2_3 f3 r2 r1.1 r261 hcr261) (cwV 2 hts gX1_readWork_X3_begin rfl rfl rfl nd_X3_begin ⟨Nat.le_of_ble_eq_true rfl, Nat.le_of_ble_eq_true rfl⟩) (PB.preV (ci := 3) (q0 := 2) hKU hP hD [2, 3] rfl rfl rfl rfl) rfl rfl hl.1 rfl (lv_room (Nat.le_of_ble_eq_true rfl)) dX1_readWork_96 ⟨Nat.zero_le _, Nat.zero_le _⟩) hS hP hD hA [2, 3] rfl rfl (by first | (simp only [wset, List.set_cons_zero, List.set_cons_succ]; done) | rfl) rfl (fun H locs hP hD hS => ?_)
      refine lv_iload_n hx hb dX1_readWork_99 rfl (lv_at hl 2 rfl) ?_
      by_cases c262 : r2 = 43
      · have hsp := itT hsp c262
        refine lv_lookup (off := 44) (tgt := 144) hx hb dX1_readWork_100 (by decide) (by rw [c262]; decide) (by decide) ?_
        refine lv_aload_n hx hb dX1_readWork_144 rfl (lv_at hl 4 rfl) ?_
        obtain ⟨r263, hcr263, hsp⟩ := clE hsp
        refine call_z (w1 := [(a0, .inr (1, [.ref a1, .int g0_1, .int r263.2.1, .ref a2])), (a1, .inl (cI, 60, .inl f1)), (a2, .inr (3, [.int r261.1, .int r261.2.1, .int r261.2.2.1, .int r261.2.2.2.1, .ref a3])), (a3, .inl (cI, 4, .inl r263.2.2))]) (ws' := [(a0, .inr (1, [.ref a1, .int g0_1, .int r263.2.1, .ref a2])), (a1, .inl (cI, 60, .inl f1)), (a2, .inr (3, [.int r261.1, .int r261.2.1, .int r261.2.2.1, .int r261.2.2.2.1, .ref a3])), (a3, .inl (cI, 4, .inl r263.2.2))]) (va_runV (As := []) (rest := []) ⟨hx, hb, hml, hown, hts⟩ (k_X1_readKinds l D cI cZ cC cS H.size a0 a1 a2 a3 g0_1 x260 f1 (.int r261.1) (.int r261.2.1) (.int r261.2.2.1) (.int r261.2.2.2.1) r261.2.2.2.2 r263 hcr263) (cwV 0 hts gX1_readWork_X1_readKinds rfl rfl rfl nd_X1_readKinds ⟨Nat.le_of_ble_eq_true rfl, Nat.le_of_ble_eq_true rfl⟩) (PB.preV (ci := 1) (q0 := 0) hKU hP hD [0, 1, 2, 3] rfl rfl rfl rfl) rfl rfl hl.1 rfl (lv_room (Nat.le_of_ble_eq_true rfl)) dX1_readWork_145 ⟨Nat.zero_le _, Nat.zero_le _⟩) hS hP hD hA [0, 1, 2, 3] rfl rfl (by first | (simp only [wset, List.set_cons_zero, List.set_cons_succ]; done) | rfl) rfl (fun H locs hP hD hS hzr263 => ?_)
        have hres := Option.some.inj hsp
        subst hres
        exact W.zret (v := r263.1) hx hb hr (zE hzr263) (fun t ht hW => ⟨⟨r263.1, (), rfl, ⟨rfl, hzr263⟩, P_at ht hP⟩, hS.F ht⟩) hS.2.2 dX1_readWork_148
      have hsp := itF hsp c262
      by_cases c264 : r2 = 62
      · have hsp := itT hsp c264
        refine lv_lookup (off := 49) (tgt := 149) hx hb dX1_readWork_100 (by decide) (by rw [c264]; decide) (by decide) ?_
        refine lv_aload_n hx hb dX1_readWork_149 rfl (lv_at hl 4 rfl) ?_
        obtain ⟨r265, hcr265, hsp⟩ := clE hsp
        refine call_z (w1 := [(a0, .inr (1, [.ref a1, .int g0_1, .int r265.2.1, .ref a2])), (a1, .inl (cI, 60, .inl f1)), (a2, .inr (3, [.int r261.1, .int r261.2.1, .int r265.2.2, .int r261.2.2.2.1, .ref a3]))]) (ws' := [(a0, .inr (1, [.ref a1, .int g0_1, .int r265.2.1, .ref a2])), (a1, .inl (cI, 60, .inl f1)), (a2, .inr (3, [.int r261.1, .int r261.2.1, .int r265.2.2, .int r261.2.2.2.1, .ref a3])), (a3, .inl (cI, 4, .inl r261.2.2.2.2))]) (va_runV (As := []) (rest := []) ⟨hx, hb, hml, hown, hts⟩ (k_X1_readOther l D cI cZ cC cS H.size a0 a1 a2 g0_1 x260 f1 (.int r261.1) (.int r261.2.1) r261.2.2.1 (.int r261.2.2.2.1) (.ref a3) r265 hcr265) (cwV 0 hts gX1_readWork_X1_readOther rfl rfl rfl nd_X1_readOther ⟨Nat.le_of_ble_eq_true rfl, Nat.le_of_ble_eq_true rfl⟩) (PB.preV (ci := 1) (q0 := 0) hKU hP hD [0, 1, 2] rfl rfl rfl rfl) rfl rfl hl.1 rfl (lv_room (Nat.le_of_ble_eq_true rfl)) dX1_readWork_150 ⟨Nat.zero_le _, Nat.zero_le _⟩) hS hP hD hA [0, 1, 2] rfl rfl (by first | (simp only [wset, List.set_cons_zero, List.set_cons_succ]; done) | rfl) rfl (fun H locs hP hD hS hzr265 => ?_)
        refine lv_if_eq (tgt := 180) hx hb dX1_readWork_153 (by decide) (fun c266 => ?_) (fun c266 => ?_)
        · have hsp := itT hsp c266
          refine lv_iconst (v := 0) hx hb dX1_readWork_180 (by decide) ?_
          have hres := Option.some.inj hsp
          subst hres
          exact W.zret (v := 0) hx hb hr (zE (Or.inl rfl)) (fun t ht hW => ⟨⟨0, (), rfl, ⟨rfl, (Or.inl rfl)⟩, P_at ht hP⟩, hS.F ht⟩) hS.2.2 dX1_readWork_181
        have hsp := itF hsp c266
        refine lv_aload_n hx hb dX1_readWork_156 rfl (lv_at hl 4 rfl) ?_
        refine lv_bipush (v := 58) hx hb dX1_readWork_157 (by decide) ?_
        obtain ⟨r267, hcr267, hsp⟩ := clE hsp
        refine call_z (w1 := [(a0, .inr (1, [.ref a1, .int g0_1, .int r267.2, .ref a2])), (a1, .inl (cI, 60, .inl f1))]) (ws' := [(a0, .inr (1, [.ref a1, .int g0_1, .int r267.2, .ref a2])), (a1, .inl (cI, 60, .inl f1)), (a2, .inr (3, [.int r261.1, .int r261.2.1, .int r265.2.2, .int r261.2.2.2.1, .ref a3])), (a3, .inl (cI, 4, .inl r261.2.2.2.2))]) (va_runV (As := [.int 58]) (rest := []) ⟨hx, hb, hml, hown, hts⟩ (k_X1_readSign l D cI cZ cC cS H.size a0 a1 g0_1 r265.2.1 (.ref a2) f1 58 r267 hcr267) (cwV 1 hts gX1_readWork_X1_readSign rfl rfl rfl nd_X1_readSign ⟨Nat.le_of_ble_eq_true rfl, Nat.le_of_ble_eq_true rfl⟩) (PB.preV (ci := 1) (q0 := 0) hKU hP hD [0, 1] rfl rfl rfl rfl) rfl rfl hl.1 rfl (lv_room (Nat.le_of_ble_eq_true rfl)) dX1_readWork_159 ⟨Nat.zero_le _, Nat.zero_le _⟩) hS hP hD hA [0, 1] rfl rfl (by first | (simp only [wset, List.set_cons_zero, List.set_cons_succ]; done) | rfl) rfl (fun H locs hP hD hS hzr267 => ?_)
        refine lv_if_eq (tgt := 180) hx hb dX1_readWork_162 (by decide) (fun c268 => ?_) (fun c268 => ?_)
        · have hsp := itT hsp c268
          refine lv_iconst (v := 0) hx hb dX1_readWork_180 (by decide) ?_
          have hres := Option.some.inj hsp
          subst hres
          exact W.zret (v := 0) hx hb hr (zE (Or.inl rfl)) (fun t ht hW => ⟨⟨0, (), rfl, ⟨rfl, (Or.inl rfl)⟩, P_at ht hP⟩, hS.F ht⟩) hS.2.2 dX1_readWork_181
        have hsp := itF hsp c268
        refine lv_aload_n hx hb dX1_readWork_165 rfl (lv_at hl 4 rfl) ?_
        refine lv_aload_n hx hb dX1_readWork_166 rfl (lv_at hl 4 rfl) ?_
        obtain ⟨r269, hcr269, hsp⟩ := clE hsp
        refine call_i (w1 := [(a0, .inr (1, [.ref a1, .int g0_1, .int r269.2, .ref a2])), (a1, .inl (cI, 60, .inl f1))]) (ws' := [(a0, .inr (1, [.ref a1, .int g0_1, .int r269.2, .ref a2])), (a1, .inl (cI, 60, .inl f1)), (a2, .inr (3, [.int r261.1, .int r261.2.1, .int r265.2.2, .int r261.2.2.2.1, .ref a3])), (a3, .inl (cI, 4, .inl r261.2.2.2.2))]) (va_runV (As := []) (rest := [.ref a0]) ⟨hx, hb, hml, hown, hts⟩ (k_X1_readNumber l D cI cZ cC cS H.size a0 a1 g0_1 r267.2 (.ref a2) f1 r269 hcr269) (cwV 0 hts gX1_readWork_X1_readNumber rfl rfl rfl nd_X1_readNumber ⟨Nat.le_of_ble_eq_true rfl, Nat.le_of_ble_eq_true rfl⟩) (PB.preV (ci := 1) (q0 := 0) hKU hP hD [0, 1] rfl rfl rfl rfl) rfl rfl hl.1 rfl (lv_room (Nat.le_of_ble_eq_true rfl)) dX1_readWork_167 ⟨Nat.zero_le _, Nat.zero_le _⟩) hS hP hD hA [0, 1] rfl rfl (by first | (simp only [wset, List.set_cons_zero, List.set_cons_succ]; done) | rfl) rfl (fun H locs hP hD hS => ?_)
        obtain ⟨r270, hcr270, hsp⟩ := clE hsp
        refine call_z (w1 := [(a0, .inr (1, [.ref a1, .int g0_1, .int r269.2, .ref a2])), (a2, .inr (3, [.int r261.1, .int r261.2.1, .int r265.2.2, .int r270.2, .ref a3]))]) (ws' := [(a0, .inr (1, [.ref a1, .int g0_1, .int r269.2, .ref a2])), (a1, .inl (cI, 60, .inl f1)), (a2, .inr (3, [.int r261.1, .int r261.2.1, .int r265.2.2, .int r270.2, .ref a3])), (a3, .inl (cI, 4, .inl r261.2.2.2.2))]) (va_runV (As := [.int r269.1]) (rest := []) ⟨hx, hb, hml, hown, hts⟩ (k_X1_readDrops l D cI cZ cC cS H.size a0 a2 (.ref a1) (.int g0_1) (.int r269.2) (.int r261.1) (.int r261.2.1) (.int r265.2.2) r261.2.2.2.1 (.ref a3) r269.1 r270 hcr270) (cwV 1 hts gX1_readWork_X1_readDrops rfl rfl rfl nd_X1_readDrops ⟨Nat.le_of_ble_eq_true rfl, Nat.le_of_ble_eq_true rfl⟩) (PB.preV (ci := 1) (q0 := 0) hKU hP hD [0, 2] rfl rfl rfl rfl) rfl rfl hl.1 rfl (lv_room (Nat.le_of_ble_eq_true rfl)) dX1_readWork_170 ⟨Nat.zero_le _, Nat.zero_le _⟩) hS hP hD hA [0, 2] rfl rfl (by first | (simp only [wset, List.set_cons_zero, List.set_cons_succ]; done) | rfl) rfl (fun H locs hP hD hS hzr270 => ?_)
        refine lv_if_eq (tgt := 180) hx hb dX1_readWork_173 (by decide) (fun c271 => ?_) (fun c271 => ?_)
        · have hsp := itT hsp c271
          refine lv_iconst (v := 0) hx hb dX1_readWork_180 (by decide) ?_
          have hres := Option.some.inj hsp
          subst hres
          exact W.zret (v := 0) hx hb hr (zE (Or.inl rfl)) (fun t ht hW => ⟨⟨0, (), rfl, ⟨rfl, (Or.inl rfl)⟩, P_at ht hP⟩, hS.F ht⟩) hS.2.2 dX1_readWork_181
        have hsp := itF hsp c271
        refine lv_iconst (v := 1) hx hb dX1_readWork_176 (by decide) ?_
        refine lv_goto (tgt := 181) hx hb dX1_readWork_177 (by decide) ?_
        have hres := Option.some.inj hsp
        subst hres
        exact W.zret (v := 1) hx hb hr (zE (Or.inr rfl)) (fun t ht hW => ⟨⟨1, (), rfl, ⟨rfl, (Or.inr rfl)⟩, P_at ht hP⟩, hS.F ht⟩) hS.2.2 dX1_readWork_181
      have hsp := itF hsp c264
      by_cases c272 : r2 = 100
      · have hsp := itT hsp c272
        refine lv_lookup (off := 82) (tgt := 182) hx hb dX1_readWork_100 (by decide) (by rw [c272]; decide) (by decide) ?_
        refine lv_aload_n hx hb dX1_readWork_182 rfl (lv_at hl 4 rfl) ?_
        refine lv_bipush (v := 8) hx hb dX1_readWork_183 (by decide) ?_
        obtain ⟨r273, hcr273, hsp⟩ := clE hsp
        refine call_z (w1 := [(a0, .inr (1, [.ref a1, .int g0_1, .int r273.2.1, .ref a2])), (a1, .inl (cI, 60, .inl f1)), (a2, .inr (3, [.int r261.1, .int r273.2.2, .int r261.2.2.1, .int r261.2.2.2.1, .ref a3]))]) (ws' := [(a0, .inr (1, [.ref a1, .int g0_1, .int r273.2.1, .ref a2])), (a1, .inl (cI, 60, .inl f1)), (a2, .inr (3, [.int r261.1, .int r273.2.2, .int r261.2.2.1, .int r261.2.2.2.1, .ref a3])), (a3, .inl (cI, 4, .inl r261.2.2.2.2))]) (va_runV (As := [.int 8]) (rest := []) ⟨hx, hb, hml, hown, hts⟩ (k_X1_readTarget l D cI cZ cC cS H.size a0 a1 a2 g0_1 x260 f1 (.int r261.1) r261.2.1 (.int r261.2.2.1) (.int r261.2.2.2.1) (.ref a3) 8 r273 hcr273) (cwV 1 hts gX1_readWork_X1_readTarget rfl rfl rfl nd_X1_readTarget ⟨Nat.le_of_ble_eq_true rfl, Nat.le_of_ble_eq_true rfl⟩) (PB.preV (ci := 1) (q0 := 0) hKU hP hD [0, 1, 2] rfl rfl rfl rfl) rfl rfl hl.1 rfl (lv_room (Nat.le_of_ble_eq_true rfl)) dX1_readWork_185 ⟨Nat.zero_le _, Nat.zero_le _⟩) hS hP hD hA [0, 1, 2] rfl rfl (by first | (simp only [wset, List.set_cons_zero, List.set_cons_succ]; done) | rfl) rfl (fun H locs hP hD hS hzr273 => ?_)
        refine lv_if_eq (tgt := 218) hx hb dX1_readWork_188 (by decide) (fun c274 => ?_) (fun c274 => ?_)
        · have hsp := itT hsp c274
          refine lv_iconst (v := 0) hx hb dX1_readWork_218 (by decide) ?_
          have hres := Option.some.inj hsp
          subst hres
          exact W.zret (v := 0) hx hb hr (zE (Or.inl rfl)) (fun t ht hW => ⟨⟨0, (), rfl, ⟨rfl, (Or.inl rfl)⟩, P_at ht hP⟩, hS.F ht⟩) hS.2.2 dX1_readWork_219
        have hsp := itF hsp c274
        refine lv_aload_n hx hb dX1_readWork_191 rfl (lv_at hl 4 rfl) ?_
        refine lv_bipush (v := 58) hx hb dX1_readWork_192 (by decide) ?_
        obtain ⟨r275, hcr275, hsp⟩ := clE hsp
        refine call_z (w1 := [(a0, .inr (1, [.ref a1, .int g0_1, .int r275.2, .ref a2])), (a1, .inl (cI, 60, .inl f1))]) (ws' := [(a0, .inr (1, [.ref a1, .int g0_1, .int r275.2, .ref a2])), (a1, .inl (cI, 60, .inl f1)), (a2, .inr (3, [.int r261.1, .int r273.2.2, .int r261.2.2.1, .int r261.2.2.2.1, .ref a3])), (a3, .inl (cI, 4, .inl r261.2.2.2.2))]) (va_runV (As := [.int 58]) (rest := []) ⟨hx, hb, hml, hown, hts⟩ (k_X1_readSign l D cI cZ cC cS H.size a0 a1 g0_1 r273.2.1 (.ref a2) f1 58 r275 hcr275) (cwV 1 hts gX1_readWork_X1_readSign rfl rfl rfl nd_X1_readSign ⟨Nat.le_of_ble_eq_true rfl, Nat.le_of_ble_eq_true rfl⟩) (PB.preV (ci := 1) (q0 := 0) hKU hP hD [0, 1] rfl rfl rfl rfl) rfl rfl hl.1 rfl (lv_room (Nat.le_of_ble_eq_true rfl)) dX1_readWork_194 ⟨Nat.zero_le _, Nat.zero_le _⟩) hS hP hD hA [0, 1] rfl rfl (by first | (simp only [wset, List.set_cons_zero, List.set_cons_succ]; done) | rfl) rfl (fun H locs hP hD hS hzr275 => ?_)
        refine lv_if_eq (tgt := 218) hx hb dX1_readWork_197 (by decide) (fun c276 => ?_) (fun c276 => ?_)
        · have hsp := itT hsp c276
          refine lv_iconst (v := 0) hx hb dX1_readWork_218 (by decide) ?_
          have hres := Option.some.inj hsp
          subst hres
          exact W.zret (v := 0) hx hb hr (zE (Or.inl rfl)) (fun t ht hW => ⟨⟨0, (), rfl, ⟨rfl, (Or.inl rfl)⟩, P_at ht hP⟩, hS.F ht⟩) hS.2.2 dX1_readWork_219
        have hsp := itF hsp c276
        refine lv_aload_n hx hb dX1_readWork_200 rfl (lv_at hl 4 rfl) ?_
        refine lv_aload_n hx hb dX1_readWork_201 rfl (lv_at hl 4 rfl) ?_
        refine lv_iconst (v := 1) hx hb dX1_readWork_202 (by decide) ?_
        refine lv_bipush (v := 9) hx hb dX1_readWork_203 (by decide) ?_
        obtain ⟨r277, hcr277, hsp⟩ := clE hsp
        refine call_i (w1 := [(a0, .inr (1, [.ref a1, .int g0_1, .int r277.2, .ref a2])), (a1, .inl (cI, 60, .inl f1))]) (ws' := [(a0, .inr (1, [.ref a1, .int g0_1, .int r277.2, .ref a2])), (a1, .inl (cI, 60, .inl f1)), (a2, .inr (3, [.int r261.1, .int r273.2.2, .int r261.2.2.1, .int r261.2.2.2.1, .ref a3])), (a3, .inl (cI, 4, .inl r261.2.2.2.2))]) (va_runV (As := [.int 1, .int 9]) (rest := [.ref a0]) ⟨hx, hb, hml, hown, hts⟩ (k_X1_readDigit l D cI cZ cC cS H.size a0 a1 g0_1 r275.2 (.ref a2) f1 1 9 r277 hcr277) (cwV 2 hts gX1_readWork_X1_readDigit rfl rfl rfl nd_X1_readDigit ⟨Nat.le_of_ble_eq_true rfl, Nat.le_of_ble_eq_true rfl⟩) (PB.preV (ci := 1) (q0 := 0) hKU hP hD [0, 1] rfl rfl rfl rfl) rfl rfl hl.1 rfl (lv_room (Nat.le_of_ble_eq_true rfl)) dX1_readWork_205 ⟨Nat.zero_le _, Nat.zero_le _⟩) hS hP hD hA [0, 1] rfl rfl (by first | (simp only [wset, List.set_cons_zero, List.set_cons_succ]; done) | rfl) rfl (fun H locs hP hD hS => ?_)
        obtain ⟨r278, hcr278, hsp⟩ := clE hsp
        refine call_z (w1 := [(a0, .inr (1, [.ref a1, .int g0_1, .int r277.2, .ref a2])), (a2, .inr (3, [.int r261.1, .int r273.2.2, .int r261.2.2.1, .int r278.2, .ref a3]))]) (ws' := [(a0, .inr (1, [.ref a1, .int g0_1, .int r277.2, .ref a2])), (a1, .inl (cI, 60, .inl f1)), (a2, .inr (3, [.int r261.1, .int r273.2.2, .int r261.2.2.1, .int r278.2, .ref a3])), (a3, .inl (cI, 4, .inl r261.2.2.2.2))]) (va_runV (As := [.int r277.1]) (rest := []) ⟨hx, hb, hml, hown, hts⟩ (k_X1_readDrops l D cI cZ cC cS H.size a0 a2 (.ref a1) (.int g0_1) (.int r277.2) (.int r261.1) (.int r273.2.2) (.int r261.2.2.1) r261.2.2.2.1 (.ref a3) r277.1 r278 hcr278) (cwV 1 hts gX1_readWork_X1_readDrops rfl rfl rfl nd_X1_readDrops ⟨Nat.le_of_ble_eq_true rfl, Nat.le_of_ble_eq_true rfl⟩) (PB.preV (ci := 1) (q0 := 0) hKU hP hD [0, 2] rfl rfl rfl rfl) rfl rfl hl.1 rfl (lv_room (Nat.le_of_ble_eq_true rfl)) dX1_readWork_208 ⟨Nat.zero_le _, Nat.zero_le _⟩) hS hP hD hA [0, 2] rfl rfl (by first | (simp only [wset, List.set_cons_zero, List.set_cons_succ]; done) | rfl) rfl (fun H locs hP hD hS hzr278 => ?_)
        refine lv_if_eq (tgt := 218) hx hb dX1_readWork_211 (by decide) (fun c279 => ?_) (fun c279 => ?_)
        · have hsp := itT hsp c279
          refine lv_iconst (v := 0) hx hb dX1_readWork_218 (by decide) ?_
          have hres := Option.some.inj hsp
          subst hres
          exact W.zret (v := 0) hx hb hr (zE (Or.inl rfl)) (fun t ht hW => ⟨⟨0, (), rfl, ⟨rfl, (Or.inl rfl)⟩, P_at ht hP⟩, hS.F ht⟩) hS.2.2 dX1_readWork_219
        have hsp := itF hsp c279
        refine lv_iconst (v := 1) hx hb dX1_readWork_214 (by decide) ?_
        refine lv_goto (tgt := 219) hx hb dX1_readWork_215 (by decide) ?_
        have hres := Option.some.inj hsp
        subst hres
        exact W.zret (v := 1) hx hb hr (zE (Or.inr rfl)) (fun t ht hW => ⟨⟨1, (), rfl, ⟨rfl, (Or.inr rfl)⟩, P_at ht hP⟩, hS.F ht⟩) hS.2.2 dX1_readWork_219
      have hsp := itF hsp c272
      by_cases c280 : r2 = 112
      · have hsp := itT hsp c280
        refine lv_lookup (off := 120) (tgt := 220) hx hb dX1_readWork_100 (by decide) (by rw [c280]; decide) (by decide) ?_
        refine lv_aload_n hx hb dX1_readWork_220 rfl (lv_at hl 4 rfl) ?_
        refine lv_bipush (v := 6) hx hb dX1_readWork_221 (by decide) ?_
        obtain ⟨r281, hcr281, hsp⟩ := clE hsp
        refine call_z (w1 := [(a0, .inr (1, [.ref a1, .int g0_1, .int r281.2.1, .ref a2])), (a1, .inl (cI, 60, .inl f1)), (a2, .inr (3, [.int r261.1, .int r281.2.2, .int r261.2.2.1, .int r261.2.2.2.1, .ref a3]))]) (ws' := [(a0, .inr (1, [.ref a1, .int g0_1, .int r281.2.1, .ref a2])), (a1, .inl (cI, 60, .inl f1)), (a2, .inr (3, [.int r261.1, .int r281.2.2, .int r261.2.2.1, .int r261.2.2.2.1, .ref a3])), (a3, .inl (cI, 4, .inl r261.2.2.2.2))]) (va_runV (As := [.int 6]) (rest := []) ⟨hx, hb, hml, hown, hts⟩ (k_X1_readTarget l D cI cZ cC cS H.size a0 a1 a2 g0_1 x260 f1 (.int r261.1) r261.2.1 (.int r261.2.2.1) (.int r261.2.2.2.1) (.ref a3) 6 r281 hcr281) (cwV 1 hts gX1_readWork_X1_readTarget rfl rfl rfl nd_X1_readTarget ⟨Nat.le_of_ble_eq_true rfl, Nat.le_of_ble_eq_true rfl⟩) (PB.preV (ci := 1) (q0 := 0) hKU hP hD [0, 1, 2] rfl rfl rfl rfl) rfl rfl hl.1 rfl (lv_room (Nat.le_of_ble_eq_true rfl)) dX1_readWork_223 ⟨Nat.zero_le _, Nat.zero_le _⟩) hS hP hD hA [0, 1, 2] rfl rfl (by first | (simp only [wset, List.set_cons_zero, List.set_cons_succ]; done) | rfl) rfl (fun H locs hP hD hS hzr281 => ?_)
        have hres := Option.some.inj hsp
        subst hres
        exact W.zret (v := r281.1) hx hb hr (zE hzr281) (fun t ht hW => ⟨⟨r281.1, (), rfl, ⟨rfl, hzr281⟩, P_at ht hP⟩, hS.F ht⟩) hS.2.2 dX1_readWork_226
      have hsp := itF hsp c280
      refine lv_lookup (off := 127) (tgt := 227) hx hb dX1_readWork_100 (by decide) ((lv_osw c262 (by decide)).trans ((lv_osw c264 (by decide)).trans ((lv_osw c272 (by decide)).trans ((lv_osw c280 (by decide)).trans rfl)))) (by decide) ?_
      refine lv_iconst (v := 1) hx hb dX1_readWork_227 (by decide) ?_
      have hres := Option.some.inj hsp
      subst hres
      exact W.zret (v := 1) hx hb hr (zE (Or.inr rfl)) (fun t ht hW => ⟨⟨1, (), rfl, ⟨rfl, (Or.inr rfl)⟩, P_at ht hP⟩, hS.F ht⟩) hS.2.2 dX1_readWork_228
    have hsp := itT hsp c258
    refine lv_iconst (v := 1) hx hb dX1_readWork_55 (by decide) ?_
    refine lv_goto (tgt := 60) hx hb dX1_readWork_56 (by decide) ?_
    refine lv_istore (lv' := [(4, .int 1), (3, .int 1), (2, .int r2), (1, .int r1.1), (0, .ref a0)]) hx hb dX1_readWork_60 hl (by decide) rfl (fun ls hl => ?_)
    refine lv_iload_n hx hb dX1_readWork_62 rfl (lv_at hl 3 rfl) ?_
    refine lv_if_lt (tgt := 73) hx hb dX1_readWork_63 (by decide) (fun c282 => ?_) (fun c282 => ?_)
    · have hsp := itT hsp c282
      refine lv_iload hx hb dX1_readWork_73 (lv_at hl 0 rfl) ?_
      refine lv_if_ne (tgt := 80) hx hb dX1_readWork_75 (by decide) (fun _ => ?_) (fun hc => absurd hc (by decide))
      refine lv_aload_n hx hb dX1_readWork_80 rfl (lv_at hl 4 rfl) ?_
      refine lv_dup hx hb dX1_readWork_81 rfl ?_
      refine va_get (D := D) (ci := 1) (v := .int r1.2) (C := RX1) (T := TX1) (N := 4) hx hb hts hi_X1 hown hK hP 0 rfl rfl 2 (by decide) hf_19 (fun _ h9 => h9) rfl dX1_readWork_82 ?_
      refine lv_iconst (v := 1) hx hb dX1_readWork_85 (by decide) ?_
      refine lv_iadd hx hb dX1_readWork_86 ?_
      obtain ⟨x283, ex283, hsp⟩ := nmE hsp
      refine r_top ex283 ?_
      refine va_put (D := D) (ci := 1) (v := .int x283) (ty := .int) (C := RX1) (T := TX1) (N := 4) hx hb hts hi_X1 tyX1 tyX1_ok nmX1 hown hK hP hD hS 0 rfl rfl 2 (by decide) hf_19 (fun _ h9 => h9) rfl (by decide +kernel) rfl rfl (Nat.le_of_ble_eq_true rfl) dX1_readWork_87 (fun H locs hP hD hS => ?_)
      have hP : va_P D vwCl [(a0, .inr (1, [.ref a1, .int g0_1, .int x283, .ref a2])), (a1, .inl (cI, 60, .inl f1)), (a2, .inr (3, [.int g2_0, .int g2_1, .int g2_2, .int g2_3, .ref a3])), (a3, .inl (cI, 4, .inl f3))] H := hP
      have hD : va_D A [(a0, .inr (1, [.ref a1, .int g0_1, .int x283, .ref a2])), (a1, .inl (cI, 60, .inl f1)), (a2, .inr (3, [.int g2_0, .int g2_1, .int g2_2, .int g2_3, .ref a3])), (a3, .inl (cI, 4, .inl f3))] := hD
      refine lv_aload_n hx hb dX1_readWork_90 rfl (lv_at hl 4 rfl) ?_
      refine va_get (D := D) (ci := 1) (v := .ref a2) (C := RX1) (T := TX1) (N := 4) hx hb hts hi_X1 hown hK hP 0 rfl rfl 3 (by decide) hf_25 (fun _ h9 => h9) rfl dX1_readWork_91 ?_
      refine lv_iload_n hx hb dX1_readWork_94 rfl (lv_at hl 2 rfl) ?_
      refine lv_iload_n hx hb dX1_readWork_95 rfl (lv_at hl 3 rfl) ?_
      obtain ⟨r284, hcr284, hsp⟩ := clE hsp
      refine call_v (w1 := [(a2, .inr (3, [.int r284.1, .int r284.2.1, .int r284.2.2.1, .int r284.2.2.2.1, .ref a3])), (a3, .inl (cI, 4, .inl r284.2.2.2.2))]) (ws' := [(a0, .inr (1, [.ref a1, .int g0_1, .int x283, .ref a2])), (a1, .inl (cI, 60, .inl f1)), (a2, .inr (3, [.int r284.1, .int r284.2.1, .int r284.2.2.1, .int r284.2.2.2.1, .ref a3])), (a3, .inl (cI, 4, .inl r284.2.2.2.2))]) (va_runV (As := [.int r2, .int r1.1]) (rest := []) ⟨hx, hb, hml, hown, hts⟩ (k_X3_begin l D cI cZ cC cS H.size a2 a3 g2_0 g2_1 g2_2 g2_3 f3 r2 r1.1 r284 hcr284) (cwV 2 hts gX1_readWork_X3_begin rfl rfl rfl nd_X3_begin ⟨Nat.le_of_ble_eq_true rfl, Nat.le_of_ble_eq_true rfl⟩) (PB.preV (ci := 3) (q0 := 2) hKU hP hD [2, 3] rfl rfl rfl rfl) rfl rfl hl.1 rfl (lv_room (Nat.le_of_ble_eq_true rfl)) dX1_readWork_96 ⟨Nat.zero_le _, Nat.zero_le _⟩) hS hP hD hA [2, 3] rfl rfl (by first | (simp only [wset, List.set_cons_zero, List.set_cons_succ]; done) | rfl) rfl (fun H locs hP hD hS => ?_)
      refine lv_iload_n hx hb dX1_readWork_99 rfl (lv_at hl 2 rfl) ?_
      by_cases c285 : r2 = 43
      · have hsp := itT hsp c285
        refine lv_lookup (off := 44) (tgt := 144) hx hb dX1_readWork_100 (by decide) (by rw [c285]; decide) (by decide) ?_
        refine lv_aload_n hx hb dX1_readWork_144 rfl (lv_at hl 4 rfl) ?_
        obtain ⟨r286, hcr286, hsp⟩ := clE hsp
        refine call_z (w1 := [(a0, .inr (1, [.ref a1, .int g0_1, .int r286.2.1, .ref a2])), (a1, .inl (cI, 60, .inl f1)), (a2, .inr (3, [.int r284.1, .int r284.2.1, .int r284.2.2.1, .int r284.2.2.2.1, .ref a3])), (a3, .inl (cI, 4, .inl r286.2.2))]) (ws' := [(a0, .inr (1, [.ref a1, .int g0_1, .int r286.2.1, .ref a2])), (a1, .inl (cI, 60, .inl f1)), (a2, .inr (3, [.int r284.1, .int r284.2.1, .int r284.2.2.1, .int r284.2.2.2.1, .ref a3])), (a3, .inl (cI, 4, .inl r286.2.2))]) (va_runV (As := []) (rest := []) ⟨hx, hb, hml, hown, hts⟩ (k_X1_readKinds l D cI cZ cC cS H.size a0 a1 a2 a3 g0_1 x283 f1 (.int r284.1) (.int r284.2.1) (.int r284.2.2.1) (.int r284.2.2.2.1) r284.2.2.2.2 r286 hcr286) (cwV 0 hts gX1_readWork_X1_readKinds rfl rfl rfl nd_X1_readKinds ⟨Nat.le_of_ble_eq_true rfl, Nat.le_of_ble_eq_true rfl⟩) (PB.preV (ci := 1) (q0 := 0) hKU hP hD [0, 1, 2, 3] rfl rfl rfl rfl) rfl rfl hl.1 rfl (lv_room (Nat.le_of_ble_eq_true rfl)) dX1_readWork_145 ⟨Nat.zero_le _, Nat.zero_le _⟩) hS hP hD hA [0, 1, 2, 3] rfl rfl (by first | (simp only [wset, List.set_cons_zero, List.set_cons_succ]; done) | rfl) rfl (fun H locs hP hD hS hzr286 => ?_)
        have hres := Option.some.inj hsp
        subst hres
        exact W.zret (v := r286.1) hx hb hr (zE hzr286) (fun t ht hW => ⟨⟨r286.1, (), rfl, ⟨rfl, hzr286⟩, P_at ht hP⟩, hS.F ht⟩) hS.2.2 dX1_readWork_148
      have hsp := itF hsp c285
      by_cases c287 : r2 = 62
      · have hsp := itT hsp c287
        refine lv_lookup (off := 49) (tgt := 149) hx hb dX1_readWork_100 (by decide) (by rw [c287]; decide) (by decide) ?_
        refine lv_aload_n hx hb dX1_readWork_149 rfl (lv_at hl 4 rfl) ?_
        obtain ⟨r288, hcr288, hsp⟩ := clE hsp
        refine call_z (w1 := [(a0, .inr (1, [.ref a1, .int g0_1, .int r288.2.1, .ref a2])), (a1, .inl (cI, 60, .inl f1)), (a2, .inr (3, [.int r284.1, .int r284.2.1, .int r288.2.2, .int r284.2.2.2.1, .ref a3]))]) (ws' := [(a0, .inr (1, [.ref a1, .int g0_1, .int r288.2.1, .ref a2])), (a1, .inl (cI, 60, .inl f1)), (a2, .inr (3, [.int r284.1, .int r284.2.1, .int r288.2.2, .int r284.2.2.2.1, .ref a3])), (a3, .inl (cI, 4, .inl r284.2.2.2.2))]) (va_runV (As := []) (rest := []) ⟨hx, hb, hml, hown, hts⟩ (k_X1_readOther l D cI cZ cC cS H.size a0 a1 a2 g0_1 x283 f1 (.int r284.1) (.int r284.2.1) r284.2.2.1 (.int r284.2.2.2.1) (.ref a3) r288 hcr288) (cwV 0 hts gX1_readWork_X1_readOther rfl rfl rfl nd_X1_readOther ⟨Nat.le_of_ble_eq_true rfl, Nat.le_of_ble_eq_true rfl⟩) (PB.preV (ci := 1) (q0 := 0) hKU hP hD [0, 1, 2] rfl rfl rfl rfl) rfl rfl hl.1 rfl (lv_room (Nat.le_of_ble_eq_true rfl)) dX1_readWork_150 ⟨Nat.zero_le _, Nat.zero_le _⟩) hS hP hD hA [0, 1, 2] rfl rfl (by first | (simp only [wset, List.set_cons_zero, List.set_cons_succ]; done) | rfl) rfl (fun H locs hP hD hS hzr288 => ?_)
        refine lv_if_eq (tgt := 180) hx hb dX1_readWork_153 (by decide) (fun c289 => ?_) (fun c289 => ?_)
        · have hsp := itT hsp c289
          refine lv_iconst (v := 0) hx hb dX1_readWork_180 (by decide) ?_
          have hres := Option.some.inj hsp
          subst hres
          exact W.zret (v := 0) hx hb hr (zE (Or.inl rfl)) (fun t ht hW => ⟨⟨0, (), rfl, ⟨rfl, (Or.inl rfl)⟩, P_at ht hP⟩, hS.F ht⟩) hS.2.2 dX1_readWork_181
        have hsp := itF hsp c289
        refine lv_aload_n hx hb dX1_readWork_156 rfl (lv_at hl 4 rfl) ?_
        refine lv_bipush (v := 58) hx hb dX1_readWork_157 (by decide) ?_
        obtain ⟨r290, hcr290, hsp⟩ := clE hsp
        refine call_z (w1 := [(a0, .inr (1, [.ref a1, .int g0_1, .int r290.2, .ref a2])), (a1, .inl (cI, 60, .inl f1))]) (ws' := [(a0, .inr (1, [.ref a1, .int g0_1, .int r290.2, .ref a2])), (a1, .inl (cI, 60, .inl f1)), (a2, .inr (3, [.int r284.1, .int r284.2.1, .int r288.2.2, .int r284.2.2.2.1, .ref a3])), (a3, .inl (cI, 4, .inl r284.2.2.2.2))]) (va_runV (As := [.int 58]) (rest := []) ⟨hx, hb, hml, hown, hts⟩ (k_X1_readSign l D cI cZ cC cS H.size a0 a1 g0_1 r288.2.1 (.ref a2) f1 58 r290 hcr290) (cwV 1 hts gX1_readWork_X1_readSign rfl rfl rfl nd_X1_readSign ⟨Nat.le_of_ble_eq_true rfl, Nat.le_of_ble_eq_true rfl⟩) (PB.preV (ci := 1) (q0 := 0) hKU hP hD [0, 1] rfl rfl rfl rfl) rfl rfl hl.1 rfl (lv_room (Nat.le_of_ble_eq_true rfl)) dX1_readWork_159 ⟨Nat.zero_le _, Nat.zero_le _⟩) hS hP hD hA [0, 1] rfl rfl (by first | (simp only [wset, List.set_cons_zero, List.set_cons_succ]; done) | rfl) rfl (fun H locs hP hD hS hzr290 => ?_)
        refine lv_if_eq (tgt := 180) hx hb dX1_readWork_162 (by decide) (fun c291 => ?_) (fun c291 => ?_)
        · have hsp := itT hsp c291
          refine lv_iconst (v := 0) hx hb dX1_readWork_180 (by decide) ?_
          have hres := Option.some.inj hsp
          subst hres
          exact W.zret (v := 0) hx hb hr (zE (Or.inl rfl)) (fun t ht hW => ⟨⟨0, (), rfl, ⟨rfl, (Or.inl rfl)⟩, P_at ht hP⟩, hS.F ht⟩) hS.2.2 dX1_readWork_181
        have hsp := itF hsp c291
        refine lv_aload_n hx hb dX1_readWork_165 rfl (lv_at hl 4 rfl) ?_
        refine lv_aload_n hx hb dX1_readWork_166 rfl (lv_at hl 4 rfl) ?_
        obtain ⟨r292, hcr292, hsp⟩ := clE hsp
        refine call_i (w1 := [(a0, .inr (1, [.ref a1, .int g0_1, .int r292.2, .ref a2])), (a1, .inl (cI, 60, .inl f1))]) (ws' := [(a0, .inr (1, [.ref a1, .int g0_1, .int r292.2, .ref a2])), (a1, .inl (cI, 60, .inl f1)), (a2, .inr (3, [.int r284.1, .int r284.2.1, .int r288.2.2, .int r284.2.2.2.1, .ref a3])), (a3, .inl (cI, 4, .inl r284.2.2.2.2))]) (va_runV (As := []) (rest := [.ref a0]) ⟨hx, hb, hml, hown, hts⟩ (k_X1_readNumber l D cI cZ cC cS H.size a0 a1 g0_1 r290.2 (.ref a2) f1 r292 hcr292) (cwV 0 hts gX1_readWork_X1_readNumber rfl rfl rfl nd_X1_readNumber ⟨Nat.le_of_ble_eq_true rfl, Nat.le_of_ble_eq_true rfl⟩) (PB.preV (ci := 1) (q0 := 0) hKU hP hD [0, 1] rfl rfl rfl rfl) rfl rfl hl.1 rfl (lv_room (Nat.le_of_ble_eq_true rfl)) dX1_readWork_167 ⟨Nat.zero_le _, Nat.zero_le _⟩) hS hP hD hA [0, 1] rfl rfl (by first | (simp only [wset, List.set_cons_zero, List.set_cons_succ]; done) | rfl) rfl (fun H locs hP hD hS => ?_)
        obtain ⟨r293, hcr293, hsp⟩ := clE hsp
        refine call_z (w1 := [(a0, .inr (1, [.ref a1, .int g0_1, .int r292.2, .ref a2])), (a2, .inr (3, [.int r284.1, .int r284.2.1, .int r288.2.2, .int r293.2, .ref a3]))]) (ws' := [(a0, .inr (1, [.ref a1, .int g0_1, .int r292.2, .ref a2])), (a1, .inl (cI, 60, .inl f1)), (a2, .inr (3, [.int r284.1, .int r284.2.1, .int r288.2.2, .int r293.2, .ref a3])), (a3, .inl (cI, 4, .inl r284.2.2.2.2))]) (va_runV (As := [.int r292.1]) (rest := []) ⟨hx, hb, hml, hown, hts⟩ (k_X1_readDrops l D cI cZ cC cS H.size a0 a2 (.ref a1) (.int g0_1) (.int r292.2) (.int r284.1) (.int r284.2.1) (.int r288.2.2) r284.2.2.2.1 (.ref a3) r292.1 r293 hcr293) (cwV 1 hts gX1_readWork_X1_readDrops rfl rfl rfl nd_X1_readDrops ⟨Nat.le_of_ble_eq_true rfl, Nat.le_of_ble_eq_true rfl⟩) (PB.preV (ci := 1) (q0 := 0) hKU hP hD [0, 2] rfl rfl rfl rfl) rfl rfl hl.1 rfl (lv_room (Nat.le_of_ble_eq_true rfl)) dX1_readWork_170 ⟨Nat.zero_le _, Nat.zero_le _⟩) hS hP hD hA [0, 2] rfl rfl (by first | (simp only [wset, List.set_cons_zero, List.set_cons_succ]; done) | rfl) rfl (fun H locs hP hD hS hzr293 => ?_)
        refine lv_if_eq (tgt := 180) hx hb dX1_readWork_173 (by decide) (fun c294 => ?_) (fun c294 => ?_)
        · have hsp := itT hsp c294
          refine lv_iconst (v := 0) hx hb dX1_readWork_180 (by decide) ?_
          have hres := Option.some.inj hsp
          subst hres
          exact W.zret (v := 0) hx hb hr (zE (Or.inl rfl)) (fun t ht hW => ⟨⟨0, (), rfl, ⟨rfl, (Or.inl rfl)⟩, P_at ht hP⟩, hS.F ht⟩) hS.2.2 dX1_readWork_181
        have hsp := itF hsp c294
        refine lv_iconst (v := 1) hx hb dX1_readWork_176 (by decide) ?_
        refine lv_goto (tgt := 181) hx hb dX1_readWork_177 (by decide) ?_
        have hres := Option.some.inj hsp
        subst hres
        exact W.zret (v := 1) hx hb hr (zE (Or.inr rfl)) (fun t ht hW => ⟨⟨1, (), rfl, ⟨rfl, (Or.inr rfl)⟩, P_at ht hP⟩, hS.F ht⟩) hS.2.2 dX1_readWork_181
      have hsp := itF hsp c287
      by_cases c295 : r2 = 100
      · have hsp := itT hsp c295
        refine lv_lookup (off := 82) (tgt := 182) hx hb dX1_readWork_100 (by decide) (by rw [c295]; decide) (by decide) ?_
        refine lv_aload_n hx hb dX1_readWork_182 rfl (lv_at hl 4 rfl) ?_
        refine lv_bipush (v := 8) hx hb dX1_readWork_183 (by decide) ?_
        obtain ⟨r296, hcr296, hsp⟩ := clE hsp
        refine call_z (w1 := [(a0, .inr (1, [.ref a1, .int g0_1, .int r296.2.1, .ref a2])), (a1, .inl (cI, 60, .inl f1)), (a2, .inr (3, [.int r284.1, .int r296.2.2, .int r284.2.2.1, .int r284.2.2.2.1, .ref a3]))]) (ws' := [(a0, .inr (1, [.ref a1, .int g0_1, .int r296.2.1, .ref a2])), (a1, .inl (cI, 60, .inl f1)), (a2, .inr (3, [.int r284.1, .int r296.2.2, .int r284.2.2.1, .int r284.2.2.2.1, .ref a3])), (a3, .inl (cI, 4, .inl r284.2.2.2.2))]) (va_runV (As := [.int 8]) (rest := []) ⟨hx, hb, hml, hown, hts⟩ (k_X1_readTarget l D cI cZ cC cS H.size a0 a1 a2 g0_1 x283 f1 (.int r284.1) r284.2.1 (.int r284.2.2.1) (.int r284.2.2.2.1) (.ref a3) 8 r296 hcr296) (cwV 1 hts gX1_readWork_X1_readTarget rfl rfl rfl nd_X1_readTarget ⟨Nat.le_of_ble_eq_true rfl, Nat.le_of_ble_eq_true rfl⟩) (PB.preV (ci := 1) (q0 := 0) hKU hP hD [0, 1, 2] rfl rfl rfl rfl) rfl rfl hl.1 rfl (lv_room (Nat.le_of_ble_eq_true rfl)) dX1_readWork_185 ⟨Nat.zero_le _, Nat.zero_le _⟩) hS hP hD hA [0, 1, 2] rfl rfl (by first | (simp only [wset, List.set_cons_zero, List.set_cons_succ]; done) | rfl) rfl (fun H locs hP hD hS hzr296 => ?_)
        refine lv_if_eq (tgt := 218) hx hb dX1_readWork_188 (by decide) (fun c297 => ?_) (fun c297 => ?_)
        · have hsp := itT hsp c297
          refine lv_iconst (v := 0) hx hb dX1_readWork_218 (by decide) ?_
          have hres := Option.some.inj hsp
          subst hres
          exact W.zret (v := 0) hx hb hr (zE (Or.inl rfl)) (fun t ht hW => ⟨⟨0, (), rfl, ⟨rfl, (Or.inl rfl)⟩, P_at ht hP⟩, hS.F ht⟩) hS.2.2 dX1_readWork_219
        have hsp := itF hsp c297
        refine lv_aload_n hx hb dX1_readWork_191 rfl (lv_at hl 4 rfl) ?_
        refine lv_bipush (v := 58) hx hb dX1_readWork_192 (by decide) ?_
        obtain ⟨r298, hcr298, hsp⟩ := clE hsp
        refine call_z (w1 := [(a0, .inr (1, [.ref a1, .int g0_1, .int r298.2, .ref a2])), (a1, .inl (cI, 60, .inl f1))]) (ws' := [(a0, .inr (1, [.ref a1, .int g0_1, .int r298.2, .ref a2])), (a1, .inl (cI, 60, .inl f1)), (a2, .inr (3, [.int r284.1, .int r296.2.2, .int r284.2.2.1, .int r284.2.2.2.1, .ref a3])), (a3, .inl (cI, 4, .inl r284.2.2.2.2))]) (va_runV (As := [.int 58]) (rest := []) ⟨hx, hb, hml, hown, hts⟩ (k_X1_readSign l D cI cZ cC cS H.size a0 a1 g0_1 r296.2.1 (.ref a2) f1 58 r298 hcr298) (cwV 1 hts gX1_readWork_X1_readSign rfl rfl rfl nd_X1_readSign ⟨Nat.le_of_ble_eq_true rfl, Nat.le_of_ble_eq_true rfl⟩) (PB.preV (ci := 1) (q0 := 0) hKU hP hD [0, 1] rfl rfl rfl rfl) rfl rfl hl.1 rfl (lv_room (Nat.le_of_ble_eq_true rfl)) dX1_readWork_194 ⟨Nat.zero_le _, Nat.zero_le _⟩) hS hP hD hA [0, 1] rfl rfl (by first | (simp only [wset, List.set_cons_zero, List.set_cons_succ]; done) | rfl) rfl (fun H locs hP hD hS hzr298 => ?_)
        refine lv_if_eq (tgt := 218) hx hb dX1_readWork_197 (by decide) (fun c299 => ?_) (fun c299 => ?_)
        · have hsp := itT hsp c299
          refine lv_iconst (v := 0) hx hb dX1_readWork_218 (by decide) ?_
          have hres := Option.some.inj hsp
          subst hres
          exact W.zret (v := 0) hx hb hr (zE (Or.inl rfl)) (fun t ht hW => ⟨⟨0, (), rfl, ⟨rfl, (Or.inl rfl)⟩, P_at ht hP⟩, hS.F ht⟩) hS.2.2 dX1_readWork_219
        have hsp := itF hsp c299
        refine lv_aload_n hx hb dX1_readWork_200 rfl (lv_at hl 4 rfl) ?_
        refine lv_aload_n hx hb dX1_readWork_201 rfl (lv_at hl 4 rfl) ?_
        refine lv_iconst (v := 1) hx hb dX1_readWork_202 (by decide) ?_
        refine lv_bipush (v := 9) hx hb dX1_readWork_203 (by decide) ?_
        obtain ⟨r300, hcr300, hsp⟩ := clE hsp
        refine call_i (w1 := [(a0, .inr (1, [.ref a1, .int g0_1, .int r300.2, .ref a2])), (a1, .inl (cI, 60, .inl f1))]) (ws' := [(a0, .inr (1, [.ref a1, .int g0_1, .int r300.2, .ref a2])), (a1, .inl (cI, 60, .inl f1)), (a2, .inr (3, [.int r284.1, .int r296.2.2, .int r284.2.2.1, .int r284.2.2.2.1, .ref a3])), (a3, .inl (cI, 4, .inl r284.2.2.2.2))]) (va_runV (As := [.int 1, .int 9]) (rest := [.ref a0]) ⟨hx, hb, hml, hown, hts⟩ (k_X1_readDigit l D cI cZ cC cS H.size a0 a1 g0_1 r298.2 (.ref a2) f1 1 9 r300 hcr300) (cwV 2 hts gX1_readWork_X1_readDigit rfl rfl rfl nd_X1_readDigit ⟨Nat.le_of_ble_eq_true rfl, Nat.le_of_ble_eq_true rfl⟩) (PB.preV (ci := 1) (q0 := 0) hKU hP hD [0, 1] rfl rfl rfl rfl) rfl rfl hl.1 rfl (lv_room (Nat.le_of_ble_eq_true rfl)) dX1_readWork_205 ⟨Nat.zero_le _, Nat.zero_le _⟩) hS hP hD hA [0, 1] rfl rfl (by first | (simp only [wset, List.set_cons_zero, List.set_cons_succ]; done) | rfl) rfl (fun H locs hP hD hS => ?_)
        obtain ⟨r301, hcr301, hsp⟩ := clE hsp
        refine call_z (w1 := [(a0, .inr (1, [.ref a1, .int g0_1, .int r300.2, .ref a2])), (a2, .inr (3, [.int r284.1, .int r296.2.2, .int r284.2.2.1, .int r301.2, .ref a3]))]) (ws' := [(a0, .inr (1, [.ref a1, .int g0_1, .int r300.2, .ref a2])), (a1, .inl (cI, 60, .inl f1)), (a2, .inr (3, [.int r284.1, .int r296.2.2, .int r284.2.2.1, .int r301.2, .ref a3])), (a3, .inl (cI, 4, .inl r284.2.2.2.2))]) (va_runV (As := [.int r300.1]) (rest := []) ⟨hx, hb, hml, hown, hts⟩ (k_X1_readDrops l D cI cZ cC cS H.size a0 a2 (.ref a1) (.int g0_1) (.int r300.2) (.int r284.1) (.int r296.2.2) (.int r284.2.2.1) r284.2.2.2.1 (.ref a3) r300.1 r301 hcr301) (cwV 1 hts gX1_readWork_X1_readDrops rfl rfl rfl nd_X1_readDrops ⟨Nat.le_of_ble_eq_true rfl, Nat.le_of_ble_eq_true rfl⟩) (PB.preV (ci := 1) (q0 := 0) hKU hP hD [0, 2] rfl rfl rfl rfl) rfl rfl hl.1 rfl (lv_room (Nat.le_of_ble_eq_true rfl)) dX1_readWork_208 ⟨Nat.zero_le _, Nat.zero_le _⟩) hS hP hD hA [0, 2] rfl rfl (by first | (simp only [wset, List.set_cons_zero, List.set_cons_succ]; done) | rfl) rfl (fun H locs hP hD hS hzr301 => ?_)
        refine lv_if_eq (tgt := 218) hx hb dX1_readWork_211 (by decide) (fun c302 => ?_) (fun c302 => ?_)
        · have hsp := itT hsp c302
          refine lv_iconst (v := 0) hx hb dX1_readWork_218 (by decide) ?_
          have hres := Option.some.inj hsp
          subst hres
          exact W.zret (v := 0) hx hb hr (zE (Or.inl rfl)) (fun t ht hW => ⟨⟨0, (), rfl, ⟨rfl, (Or.inl rfl)⟩, P_at ht hP⟩, hS.F ht⟩) hS.2.2 dX1_readWork_219
        have hsp := itF hsp c302
        refine lv_iconst (v := 1) hx hb dX1_readWork_214 (by decide) ?_
        refine lv_goto (tgt := 219) hx hb dX1_readWork_215 (by decide) ?_
        have hres := Option.some.inj hsp
        subst hres
        exact W.zret (v := 1) hx hb hr (zE (Or.inr rfl)) (fun t ht hW => ⟨⟨1, (), rfl, ⟨rfl, (Or.inr rfl)⟩, P_at ht hP⟩, hS.F ht⟩) hS.2.2 dX1_readWork_219
      have hsp := itF hsp c295
      by_cases c303 : r2 = 112
      · have hsp := itT hsp c303
        refine lv_lookup (off := 120) (tgt := 220) hx hb dX1_readWork_100 (by decide) (by rw [c303]; decide) (by decide) ?_
        refine lv_aload_n hx hb dX1_readWork_220 rfl (lv_at hl 4 rfl) ?_
        refine lv_bipush (v := 6) hx hb dX1_readWork_221 (by decide) ?_
        obtain ⟨r304, hcr304, hsp⟩ := clE hsp
        refine call_z (w1 := [(a0, .inr (1, [.ref a1, .int g0_1, .int r304.2.1, .ref a2])), (a1, .inl (cI, 60, .inl f1)), (a2, .inr (3, [.int r284.1, .int r304.2.2, .int r284.2.2.1, .int r284.2.2.2.1, .ref a3]))]) (ws' := [(a0, .inr (1, [.ref a1, .int g0_1, .int r304.2.1, .ref a2])), (a1, .inl (cI, 60, .inl f1)), (a2, .inr (3, [.int r284.1, .int r304.2.2, .int r284.2.2.1, .int r284.2.2.2.1, .ref a3])), (a3, .inl (cI, 4, .inl r284.2.2.2.2))]) (va_runV (As := [.int 6]) (rest := []) ⟨hx, hb, hml, hown, hts⟩ (k_X1_readTarget l D cI cZ cC cS H.size a0 a1 a2 g0_1 x283 f1 (.int r284.1) r284.2.1 (.int r284.2.2.1) (.int r284.2.2.2.1) (.ref a3) 6 r304 hcr304) (cwV 1 hts gX1_readWork_X1_readTarget rfl rfl rfl nd_X1_readTarget ⟨Nat.le_of_ble_eq_true rfl, Nat.le_of_ble_eq_true rfl⟩) (PB.preV (ci := 1) (q0 := 0) hKU hP hD [0, 1, 2] rfl rfl rfl rfl) rfl rfl hl.1 rfl (lv_room (Nat.le_of_ble_eq_true rfl)) dX1_readWork_223 ⟨Nat.zero_le _, Nat.zero_le _⟩) hS hP hD hA [0, 1, 2] rfl rfl (by first | (simp only [wset, List.set_cons_zero, List.set_cons_succ]; done) | rfl) rfl (fun H locs hP hD hS hzr304 => ?_)
        have hres := Option.some.inj hsp
        subst hres
        exact W.zret (v := r304.1) hx hb hr (zE hzr304) (fun t ht hW => ⟨⟨r304.1, (), rfl, ⟨rfl, hzr304⟩, P_at ht hP⟩, hS.F ht⟩) hS.2.2 dX1_readWork_226
      have hsp := itF hsp c303
      refine lv_lookup (off := 127) (tgt := 227) hx hb dX1_readWork_100 (by decide) ((lv_osw c285 (by decide)).trans ((lv_osw c287 (by decide)).trans ((lv_osw c295 (by decide)).trans ((lv_osw c303 (by decide)).trans rfl)))) (by decide) ?_
      refine lv_iconst (v := 1) hx hb dX1_readWork_227 (by decide) ?_
      have hres := Option.some.inj hsp
      subst hres
      exact W.zret (v := 1) hx hb hr (zE (Or.inr rfl)) (fun t ht hW => ⟨⟨1, (), rfl, ⟨rfl, (Or.inr rfl)⟩, P_at ht hP⟩, hS.F ht⟩) hS.2.2 dX1_readWork_228
    have hsp := itF hsp c282
    refine lv_iload_n hx hb dX1_readWork_66 rfl (lv_at hl 1 rfl) ?_
    refine lv_if_ne (tgt := 80) hx hb dX1_readWork_67 (by decide) (fun _ => ?_) (fun hc => absurd hc (by decide))
    refine lv_aload_n hx hb dX1_readWork_80 rfl (lv_at hl 4 rfl) ?_
    refine lv_dup hx hb dX1_readWork_81 rfl ?_
    refine va_get (D := D) (ci := 1) (v := .int r1.2) (C := RX1) (T := TX1) (N := 4) hx hb hts hi_X1 hown hK hP 0 rfl rfl 2 (by decide) hf_19 (fun _ h9 => h9) rfl dX1_readWork_82 ?_
    refine lv_iconst (v := 1) hx hb dX1_readWork_85 (by decide) ?_
    refine lv_iadd hx hb dX1_readWork_86 ?_
    obtain ⟨x305, ex305, hsp⟩ := nmE hsp
    refine r_top ex305 ?_
    refine va_put (D := D) (ci := 1) (v := .int x305) (ty := .int) (C := RX1) (T := TX1) (N := 4) hx hb hts hi_X1 tyX1 tyX1_ok nmX1 hown hK hP hD hS 0 rfl rfl 2 (by decide) hf_19 (fun _ h9 => h9) rfl (by decide +kernel) rfl rfl (Nat.le_of_ble_eq_true rfl) dX1_readWork_87 (fun H locs hP hD hS => ?_)
    have hP : va_P D vwCl [(a0, .inr (1, [.ref a1, .int g0_1, .int x305, .ref a2])), (a1, .inl (cI, 60, .inl f1)), (a2, .inr (3, [.int g2_0, .int g2_1, .int g2_2, .int g2_3, .ref a3])), (a3, .inl (cI, 4, .inl f3))] H := hP
    have hD : va_D A [(a0, .inr (1, [.ref a1, .int g0_1, .int x305, .ref a2])), (a1, .inl (cI, 60, .inl f1)), (a2, .inr (3, [.int g2_0, .int g2_1, .int g2_2, .int g2_3, .ref a3])), (a3, .inl (cI, 4, .inl f3))] := hD
    refine lv_aload_n hx hb dX1_readWork_90 rfl (lv_at hl 4 rfl) ?_
    refine va_get (D := D) (ci := 1) (v := .ref a2) (C := RX1) (T := TX1) (N := 4) hx hb hts hi_X1 hown hK hP 0 rfl rfl 3 (by decide) hf_25 (fun _ h9 => h9) rfl dX1_readWork_91 ?_
    refine lv_iload_n hx hb dX1_readWork_94 rfl (lv_at hl 2 rfl) ?_
    refine lv_iload_n hx hb dX1_readWork_95 rfl (lv_at hl 3 rfl) ?_
    obtain ⟨r306, hcr306, hsp⟩ := clE hsp
    refine call_v (w1 := [(a2, .inr (3, [.int r306.1, .int r306.2.1, .int r306.2.2.1, .int r306.2.2.2.1, .ref a3])), (a3, .inl (cI, 4, .inl r306.2.2.2.2))]) (ws' := [(a0, .inr (1, [.ref a1, .int g0_1, .int x305, .ref a2])), (a1, .inl (cI, 60, .inl f1)), (a2, .inr (3, [.int r306.1, .int r306.2.1, .int r306.2.2.1, .int r306.2.2.2.1, .ref a3])), (a3, .inl (cI, 4, .inl r306.2.2.2.2))]) (va_runV (As := [.int r2, .int r1.1]) (rest := []) ⟨hx, hb, hml, hown, hts⟩ (k_X3_begin l D cI cZ cC cS H.size a2 a3 g2_0 g2_1 g2_2 g2_3 f3 r2 r1.1 r306 hcr306) (cwV 2 hts gX1_readWork_X3_begin rfl rfl rfl nd_X3_begin ⟨Nat.le_of_ble_eq_true rfl, Nat.le_of_ble_eq_true rfl⟩) (PB.preV (ci := 3) (q0 := 2) hKU hP hD [2, 3] rfl rfl rfl rfl) rfl rfl hl.1 rfl (lv_room (Nat.le_of_ble_eq_true rfl)) dX1_readWork_96 ⟨Nat.zero_le _, Nat.zero_le _⟩) hS hP hD hA [2, 3] rfl rfl (by first | (simp only [wset, List.set_cons_zero, List.set_cons_succ]; done) | rfl) rfl (fun H locs hP hD hS => ?_)
    refine lv_iload_n hx hb dX1_readWork_99 rfl (lv_at hl 2 rfl) ?_
    by_cases c307 : r2 = 43
    · have hsp := itT hsp c307
      refine lv_lookup (off := 44) (tgt := 144) hx hb dX1_readWork_100 (by decide) (by rw [c307]; decide) (by decide) ?_
      refine lv_aload_n hx hb dX1_readWork_144 rfl (lv_at hl 4 rfl) ?_
      obtain ⟨r308, hcr308, hsp⟩ := clE hsp
      refine call_z (w1 := [(a0, .inr (1, [.ref a1, .int g0_1, .int r308.2.1, .ref a2])), (a1, .inl (cI, 60, .inl f1)), (a2, .inr (3, [.int r306.1, .int r306.2.1, .int r306.2.2.1, .int r306.2.2.2.1, .ref a3])), (a3, .inl (cI, 4, .inl r308.2.2))]) (ws' := [(a0, .inr (1, [.ref a1, .int g0_1, .int r308.2.1, .ref a2])), (a1, .inl (cI, 60, .inl f1)), (a2, .inr (3, [.int r306.1, .int r306.2.1, .int r306.2.2.1, .int r306.2.2.2.1, .ref a3])), (a3, .inl (cI, 4, .inl r308.2.2))]) (va_runV (As := []) (rest := []) ⟨hx, hb, hml, hown, hts⟩ (k_X1_readKinds l D cI cZ cC cS H.size a0 a1 a2 a3 g0_1 x305 f1 (.int r306.1) (.int r306.2.1) (.int r306.2.2.1) (.int r306.2.2.2.1) r306.2.2.2.2 r308 hcr308) (cwV 0 hts gX1_readWork_X1_readKinds rfl rfl rfl nd_X1_readKinds ⟨Nat.le_of_ble_eq_true rfl, Nat.le_of_ble_eq_true rfl⟩) (PB.preV (ci := 1) (q0 := 0) hKU hP hD [0, 1, 2, 3] rfl rfl rfl rfl) rfl rfl hl.1 rfl (lv_room (Nat.le_of_ble_eq_true rfl)) dX1_readWork_145 ⟨Nat.zero_le _, Nat.zero_le _⟩) hS hP hD hA [0, 1, 2, 3] rfl rfl (by first | (simp only [wset, List.set_cons_zero, List.set_cons_succ]; done) | rfl) rfl (fun H locs hP hD hS hzr308 => ?_)
      have hres := Option.some.inj hsp
      subst hres
      exact W.zret (v := r308.1) hx hb hr (zE hzr308) (fun t ht hW => ⟨⟨r308.1, (), rfl, ⟨rfl, hzr308⟩, P_at ht hP⟩, hS.F ht⟩) hS.2.2 dX1_readWork_148
    have hsp := itF hsp c307
    by_cases c309 : r2 = 62
    · have hsp := itT hsp c309
      refine lv_lookup (off := 49) (tgt := 149) hx hb dX1_readWork_100 (by decide) (by rw [c309]; decide) (by decide) ?_
      refine lv_aload_n hx hb dX1_readWork_149 rfl (lv_at hl 4 rfl) ?_
      obtain ⟨r310, hcr310, hsp⟩ := clE hsp
      refine call_z (w1 := [(a0, .inr (1, [.ref a1, .int g0_1, .int r310.2.1, .ref a2])), (a1, .inl (cI, 60, .inl f1)), (a2, .inr (3, [.int r306.1, .int r306.2.1, .int r310.2.2, .int r306.2.2.2.1, .ref a3]))]) (ws' := [(a0, .inr (1, [.ref a1, .int g0_1, .int r310.2.1, .ref a2])), (a1, .inl (cI, 60, .inl f1)), (a2, .inr (3, [.int r306.1, .int r306.2.1, .int r310.2.2, .int r306.2.2.2.1, .ref a3])), (a3, .inl (cI, 4, .inl r306.2.2.2.2))]) (va_runV (As := []) (rest := []) ⟨hx, hb, hml, hown, hts⟩ (k_X1_readOther l D cI cZ cC cS H.size a0 a1 a2 g0_1 x305 f1 (.int r306.1) (.int r306.2.1) r306.2.2.1 (.int r306.2.2.2.1) (.ref a3) r310 hcr310) (cwV 0 hts gX1_readWork_X1_readOther rfl rfl rfl nd_X1_readOther ⟨Nat.le_of_ble_eq_true rfl, Nat.le_of_ble_eq_true rfl⟩) (PB.preV (ci := 1) (q0 := 0) hKU hP hD [0, 1, 2] rfl rfl rfl rfl) rfl rfl hl.1 rfl (lv_room (Nat.le_of_ble_eq_true rfl)) dX1_readWork_150 ⟨Nat.zero_le _, Nat.zero_le _⟩) hS hP hD hA [0, 1, 2] rfl rfl (by first | (simp only [wset, List.set_cons_zero, List.set_cons_succ]; done) | rfl) rfl (fun H locs hP hD hS hzr310 => ?_)
      refine lv_if_eq (tgt := 180) hx hb dX1_readWork_153 (by decide) (fun c311 => ?_) (fun c311 => ?_)
      · have hsp := itT hsp c311
        refine lv_iconst (v := 0) hx hb dX1_readWork_180 (by decide) ?_
        have hres := Option.some.inj hsp
        subst hres
        exact W.zret (v := 0) hx hb hr (zE (Or.inl rfl)) (fun t ht hW => ⟨⟨0, (), rfl, ⟨rfl, (Or.inl rfl)⟩, P_at ht hP⟩, hS.F ht⟩) hS.2.2 dX1_readWork_181
      have hsp := itF hsp c311
      refine lv_aload_n hx hb dX1_readWork_156 rfl (lv_at hl 4 rfl) ?_
      refine lv_bipush (v := 58) hx hb dX1_readWork_157 (by decide) ?_
      obtain ⟨r312, hcr312, hsp⟩ := clE hsp
      refine call_z (w1 := [(a0, .inr (1, [.ref a1, .int g0_1, .int r312.2, .ref a2])), (a1, .inl (cI, 60, .inl f1))]) (ws' := [(a0, .inr (1, [.ref a1, .int g0_1, .int r312.2, .ref a2])), (a1, .inl (cI, 60, .inl f1)), (a2, .inr (3, [.int r306.1, .int r306.2.1, .int r310.2.2, .int r306.2.2.2.1, .ref a3])), (a3, .inl (cI, 4, .inl r306.2.2.2.2))]) (va_runV (As := [.int 58]) (rest := []) ⟨hx, hb, hml, hown, hts⟩ (k_X1_readSign l D cI cZ cC cS H.size a0 a1 g0_1 r310.2.1 (.ref a2) f1 58 r312 hcr312) (cwV 1 hts gX1_readWork_X1_readSign rfl rfl rfl nd_X1_readSign ⟨Nat.le_of_ble_eq_true rfl, Nat.le_of_ble_eq_true rfl⟩) (PB.preV (ci := 1) (q0 := 0) hKU hP hD [0, 1] rfl rfl rfl rfl) rfl rfl hl.1 rfl (lv_room (Nat.le_of_ble_eq_true rfl)) dX1_readWork_159 ⟨Nat.zero_le _, Nat.zero_le _⟩) hS hP hD hA [0, 1] rfl rfl (by first | (simp only [wset, List.set_cons_zero, List.set_cons_succ]; done) | rfl) rfl (fun H locs hP hD hS hzr312 => ?_)
      refine lv_if_eq (tgt := 180) hx hb dX1_readWork_162 (by decide) (fun c313 => ?_) (fun c313 => ?_)
      · have hsp := itT hsp c313
        refine lv_iconst (v := 0) hx hb dX1_readWork_180 (by decide) ?_
        have hres := Option.some.inj hsp
        subst hres
        exact W.zret (v := 0) hx hb hr (zE (Or.inl rfl)) (fun t ht hW => ⟨⟨0, (), rfl, ⟨rfl, (Or.inl rfl)⟩, P_at ht hP⟩, hS.F ht⟩) hS.2.2 dX1_readWork_181
      have hsp := itF hsp c313
      refine lv_aload_n hx hb dX1_readWork_165 rfl (lv_at hl 4 rfl) ?_
      refine lv_aload_n hx hb dX1_readWork_166 rfl (lv_at hl 4 rfl) ?_
      obtain ⟨r314, hcr314, hsp⟩ := clE hsp
      refine call_i (w1 := [(a0, .inr (1, [.ref a1, .int g0_1, .int r314.2, .ref a2])), (a1, .inl (cI, 60, .inl f1))]) (ws' := [(a0, .inr (1, [.ref a1, .int g0_1, .int r314.2, .ref a2])), (a1, .inl (cI, 60, .inl f1)), (a2, .inr (3, [.int r306.1, .int r306.2.1, .int r310.2.2, .int r306.2.2.2.1, .ref a3])), (a3, .inl (cI, 4, .inl r306.2.2.2.2))]) (va_runV (As := []) (rest := [.ref a0]) ⟨hx, hb, hml, hown, hts⟩ (k_X1_readNumber l D cI cZ cC cS H.size a0 a1 g0_1 r312.2 (.ref a2) f1 r314 hcr314) (cwV 0 hts gX1_readWork_X1_readNumber rfl rfl rfl nd_X1_readNumber ⟨Nat.le_of_ble_eq_true rfl, Nat.le_of_ble_eq_true rfl⟩) (PB.preV (ci := 1) (q0 := 0) hKU hP hD [0, 1] rfl rfl rfl rfl) rfl rfl hl.1 rfl (lv_room (Nat.le_of_ble_eq_true rfl)) dX1_readWork_167 ⟨Nat.zero_le _, Nat.zero_le _⟩) hS hP hD hA [0, 1] rfl rfl (by first | (simp only [wset, List.set_cons_zero, List.set_cons_succ]; done) | rfl) rfl (fun H locs hP hD hS => ?_)
      obtain ⟨r315, hcr315, hsp⟩ := clE hsp
      refine call_z (w1 := [(a0, .inr (1, [.ref a1, .int g0_1, .int r314.2, .ref a2])), (a2, .inr (3, [.int r306.1, .int r306.2.1, .int r310.2.2, .int r315.2, .ref a3]))]) (ws' := [(a0, .inr (1, [.ref a1, .int g0_1, .int r314.2, .ref a2])), (a1, .inl (cI, 60, .inl f1)), (a2, .inr (3, [.int r306.1, .int r306.2.1, .int r310.2.2, .int r315.2, .ref a3])), (a3, .inl (cI, 4, .inl r306.2.2.2.2))]) (va_runV (As := [.int r314.1]) (rest := []) ⟨hx, hb, hml, hown, hts⟩ (k_X1_readDrops l D cI cZ cC cS H.size a0 a2 (.ref a1) (.int g0_1) (.int r314.2) (.int r306.1) (.int r306.2.1) (.int r310.2.2) r306.2.2.2.1 (.ref a3) r314.1 r315 hcr315) (cwV 1 hts gX1_readWork_X1_readDrops rfl rfl rfl nd_X1_readDrops ⟨Nat.le_of_ble_eq_true rfl, Nat.le_of_ble_eq_true rfl⟩) (PB.preV (ci := 1) (q0 := 0) hKU hP hD [0, 2] rfl rfl rfl rfl) rfl rfl hl.1 rfl (lv_room (Nat.le_of_ble_eq_true rfl)) dX1_readWork_170 ⟨Nat.zero_le _, Nat.zero_le _⟩) hS hP hD hA [0, 2] rfl rfl (by first | (simp only [wset, List.set_cons_zero, List.set_cons_succ]; done) | rfl) rfl (fun H locs hP hD hS hzr315 => ?_)
      refine lv_if_eq (tgt := 180) hx hb dX1_readWork_173 (by decide) (fun c316 => ?_) (fun c316 => ?_)
      · have hsp := itT hsp c316
        refine lv_iconst (v := 0) hx hb dX1_readWork_180 (by decide) ?_
        have hres := Option.some.inj hsp
        subst hres
        exact W.zret (v := 0) hx hb hr (zE (Or.inl rfl)) (fun t ht hW => ⟨⟨0, (), rfl, ⟨rfl, (Or.inl rfl)⟩, P_at ht hP⟩, hS.F ht⟩) hS.2.2 dX1_readWork_181
      have hsp := itF hsp c316
      refine lv_iconst (v := 1) hx hb dX1_readWork_176 (by decide) ?_
      refine lv_goto (tgt := 181) hx hb dX1_readWork_177 (by decide) ?_
      have hres := Option.some.inj hsp
      subst hres
      exact W.zret (v := 1) hx hb hr (zE (Or.inr rfl)) (fun t ht hW => ⟨⟨1, (), rfl, ⟨rfl, (Or.inr rfl)⟩, P_at ht hP⟩, hS.F ht⟩) hS.2.2 dX1_readWork_181
    have hsp := itF hsp c309
    by_cases c317 : r2 = 100
    · have hsp := itT hsp c317
      refine lv_lookup (off := 82) (tgt := 182) hx hb dX1_readWork_100 (by decide) (by rw [c317]; decide) (by decide) ?_
      refine lv_aload_n hx hb dX1_readWork_182 rfl (lv_at hl 4 rfl) ?_
      refine lv_bipush (v := 8) hx hb dX1_readWork_183 (by decide) ?_
      obtain ⟨r318, hcr318, hsp⟩ := clE hsp
      refine call_z (w1 := [(a0, .inr (1, [.ref a1, .int g0_1, .int r318.2.1, .ref a2])), (a1, .inl (cI, 60, .inl f1)), (a2, .inr (3, [.int r306.1, .int r318.2.2, .int r306.2.2.1, .int r306.2.2.2.1, .ref a3]))]) (ws' := [(a0, .inr (1, [.ref a1, .int g0_1, .int r318.2.1, .ref a2])), (a1, .inl (cI, 60, .inl f1)), (a2, .inr (3, [.int r306.1, .int r318.2.2, .int r306.2.2.1, .int r306.2.2.2.1, .ref a3])), (a3, .inl (cI, 4, .inl r306.2.2.2.2))]) (va_runV (As := [.int 8]) (rest := []) ⟨hx, hb, hml, hown, hts⟩ (k_X1_readTarget l D cI cZ cC cS H.size a0 a1 a2 g0_1 x305 f1 (.int r306.1) r306.2.1 (.int r306.2.2.1) (.int r306.2.2.2.1) (.ref a3) 8 r318 hcr318) (cwV 1 hts gX1_readWork_X1_readTarget rfl rfl rfl nd_X1_readTarget ⟨Nat.le_of_ble_eq_true rfl, Nat.le_of_ble_eq_true rfl⟩) (PB.preV (ci := 1) (q0 := 0) hKU hP hD [0, 1, 2] rfl rfl rfl rfl) rfl rfl hl.1 rfl (lv_room (Nat.le_of_ble_eq_true rfl)) dX1_readWork_185 ⟨Nat.zero_le _, Nat.zero_le _⟩) hS hP hD hA [0, 1, 2] rfl rfl (by first | (simp only [wset, List.set_cons_zero, List.set_cons_succ]; done) | rfl) rfl (fun H locs hP hD hS hzr318 => ?_)
      refine lv_if_eq (tgt := 218) hx hb dX1_readWork_188 (by decide) (fun c319 => ?_) (fun c319 => ?_)
      · have hsp := itT hsp c319
        refine lv_iconst (v := 0) hx hb dX1_readWork_218 (by decide) ?_
        have hres := Option.some.inj hsp
        subst hres
        exact W.zret (v := 0) hx hb hr (zE (Or.inl rfl)) (fun t ht hW => ⟨⟨0, (), rfl, ⟨rfl, (Or.inl rfl)⟩, P_at ht hP⟩, hS.F ht⟩) hS.2.2 dX1_readWork_219
      have hsp := itF hsp c319
      refine lv_aload_n hx hb dX1_readWork_191 rfl (lv_at hl 4 rfl) ?_
      refine lv_bipush (v := 58) hx hb dX1_readWork_192 (by decide) ?_
      obtain ⟨r320, hcr320, hsp⟩ := clE hsp
      refine call_z (w1 := [(a0, .inr (1, [.ref a1, .int g0_1, .int r320.2, .ref a2])), (a1, .inl (cI, 60, .inl f1))]) (ws' := [(a0, .inr (1, [.ref a1, .int g0_1, .int r320.2, .ref a2])), (a1, .inl (cI, 60, .inl f1)), (a2, .inr (3, [.int r306.1, .int r318.2.2, .int r306.2.2.1, .int r306.2.2.2.1, .ref a3])), (a3, .inl (cI, 4, .inl r306.2.2.2.2))]) (va_runV (As := [.int 58]) (rest := []) ⟨hx, hb, hml, hown, hts⟩ (k_X1_readSign l D cI cZ cC cS H.size a0 a1 g0_1 r318.2.1 (.ref a2) f1 58 r320 hcr320) (cwV 1 hts gX1_readWork_X1_readSign rfl rfl rfl nd_X1_readSign ⟨Nat.le_of_ble_eq_true rfl, Nat.le_of_ble_eq_true rfl⟩) (PB.preV (ci := 1) (q0 := 0) hKU hP hD [0, 1] rfl rfl rfl rfl) rfl rfl hl.1 rfl (lv_room (Nat.le_of_ble_eq_true rfl)) dX1_readWork_194 ⟨Nat.zero_le _, Nat.zero_le _⟩) hS hP hD hA [0, 1] rfl rfl (by first | (simp only [wset, List.set_cons_zero, List.set_cons_succ]; done) | rfl) rfl (fun H locs hP hD hS hzr320 => ?_)
      refine lv_if_eq (tgt := 218) hx hb dX1_readWork_197 (by decide) (fun c321 => ?_) (fun c321 => ?_)
      · have hsp := itT hsp c321
        refine lv_iconst (v := 0) hx hb dX1_readWork_218 (by decide) ?_
        have hres := Option.some.inj hsp
        subst hres
        exact W.zret (v := 0) hx hb hr (zE (Or.inl rfl)) (fun t ht hW => ⟨⟨0, (), rfl, ⟨rfl, (Or.inl rfl)⟩, P_at ht hP⟩, hS.F ht⟩) hS.2.2 dX1_readWork_219
      have hsp := itF hsp c321
      refine lv_aload_n hx hb dX1_readWork_200 rfl (lv_at hl 4 rfl) ?_
      refine lv_aload_n hx hb dX1_readWork_201 rfl (lv_at hl 4 rfl) ?_
      refine lv_iconst (v := 1) hx hb dX1_readWork_202 (by decide) ?_
      refine lv_bipush (v := 9) hx hb dX1_readWork_203 (by decide) ?_
      obtain ⟨r322, hcr322, hsp⟩ := clE hsp
      refine call_i (w1 := [(a0, .inr (1, [.ref a1, .int g0_1, .int r322.2, .ref a2])), (a1, .inl (cI, 60, .inl f1))]) (ws' := [(a0, .inr (1, [.ref a1, .int g0_1, .int r322.2, .ref a2])), (a1, .inl (cI, 60, .inl f1)), (a2, .inr (3, [.int r306.1, .int r318.2.2, .int r306.2.2.1, .int r306.2.2.2.1, .ref a3])), (a3, .inl (cI, 4, .inl r306.2.2.2.2))]) (va_runV (As := [.int 1, .int 9]) (rest := [.ref a0]) ⟨hx, hb, hml, hown, hts⟩ (k_X1_readDigit l D cI cZ cC cS H.size a0 a1 g0_1 r320.2 (.ref a2) f1 1 9 r322 hcr322) (cwV 2 hts gX1_readWork_X1_readDigit rfl rfl rfl nd_X1_readDigit ⟨Nat.le_of_ble_eq_true rfl, Nat.le_of_ble_eq_true rfl⟩) (PB.preV (ci := 1) (q0 := 0) hKU hP hD [0, 1] rfl rfl rfl rfl) rfl rfl hl.1 rfl (lv_room (Nat.le_of_ble_eq_true rfl)) dX1_readWork_205 ⟨Nat.zero_le _, Nat.zero_le _⟩) hS hP hD hA [0, 1] rfl rfl (by first | (simp only [wset, List.set_cons_zero, List.set_cons_succ]; done) | rfl) rfl (fun H locs hP hD hS => ?_)
      obtain ⟨r323, hcr323, hsp⟩ := clE hsp
      refine call_z (w1 := [(a0, .inr (1, [.ref a1, .int g0_1, .int r322.2, .ref a2])), (a2, .inr (3, [.int r306.1, .int r318.2.2, .int r306.2.2.1, .int r323.2, .ref a3]))]) (ws' := [(a0, .inr (1, [.ref a1, .int g0_1, .int r322.2, .ref a2])), (a1, .inl (cI, 60, .inl f1)), (a2, .inr (3, [.int r306.1, .int r318.2.2, .int r306.2.2.1, .int r323.2, .ref a3])), (a3, .inl (cI, 4, .inl r306.2.2.2.2))]) (va_runV (As := [.int r322.1]) (rest := []) ⟨hx, hb, hml, hown, hts⟩ (k_X1_readDrops l D cI cZ cC cS H.size a0 a2 (.ref a1) (.int g0_1) (.int r322.2) (.int r306.1) (.int r318.2.2) (.int r306.2.2.1) r306.2.2.2.1 (.ref a3) r322.1 r323 hcr323) (cwV 1 hts gX1_readWork_X1_readDrops rfl rfl rfl nd_X1_readDrops ⟨Nat.le_of_ble_eq_true rfl, Nat.le_of_ble_eq_true rfl⟩) (PB.preV (ci := 1) (q0 := 0) hKU hP hD [0, 2] rfl rfl rfl rfl) rfl rfl hl.1 rfl (lv_room (Nat.le_of_ble_eq_true rfl)) dX1_readWork_208 ⟨Nat.zero_le _, Nat.zero_le _⟩) hS hP hD hA [0, 2] rfl rfl (by first | (simp only [wset, List.set_cons_zero, List.set_cons_succ]; done) | rfl) rfl (fun H locs hP hD hS hzr323 => ?_)
      refine lv_if_eq (tgt := 218) hx hb dX1_readWork_211 (by decide) (fun c324 => ?_) (fun c324 => ?_)
      · have hsp := itT hsp c324
        refine lv_iconst (v := 0) hx hb dX1_readWork_218 (by decide) ?_
        have hres := Option.some.inj hsp
        subst hres
        exact W.zret (v := 0) hx hb hr (zE (Or.inl rfl)) (fun t ht hW => ⟨⟨0, (), rfl, ⟨rfl, (Or.inl rfl)⟩, P_at ht hP⟩, hS.F ht⟩) hS.2.2 dX1_readWork_219
      have hsp := itF hsp c324
      refine lv_iconst (v := 1) hx hb dX1_readWork_214 (by decide) ?_
      refine lv_goto (tgt := 219) hx hb dX1_readWork_215 (by decide) ?_
      have hres := Option.some.inj hsp
      subst hres
      exact W.zret (v := 1) hx hb hr (zE (Or.inr rfl)) (fun t ht hW => ⟨⟨1, (), rfl, ⟨rfl, (Or.inr rfl)⟩, P_at ht hP⟩, hS.F ht⟩) hS.2.2 dX1_readWork_219
    have hsp := itF hsp c317
    by_cases c325 : r2 = 112
    · have hsp := itT hsp c325
      refine lv_lookup (off := 120) (tgt := 220) hx hb dX1_readWork_100 (by decide) (by rw [c325]; decide) (by decide) ?_
      refine lv_aload_n hx hb dX1_readWork_220 rfl (lv_at hl 4 rfl) ?_
      refine lv_bipush (v := 6) hx hb dX1_readWork_221 (by decide) ?_
      obtain ⟨r326, hcr326, hsp⟩ := clE hsp
      refine call_z (w1 := [(a0, .inr (1, [.ref a1, .int g0_1, .int r326.2.1, .ref a2])), (a1, .inl (cI, 60, .inl f1)), (a2, .inr (3, [.int r306.1, .int r326.2.2, .int r306.2.2.1, .int r306.2.2.2.1, .ref a3]))]) (ws' := [(a0, .inr (1, [.ref a1, .int g0_1, .int r326.2.1, .ref a2])), (a1, .inl (cI, 60, .inl f1)), (a2, .inr (3, [.int r306.1, .int r326.2.2, .int r306.2.2.1, .int r306.2.2.2.1, .ref a3])), (a3, .inl (cI, 4, .inl r306.2.2.2.2))]) (va_runV (As := [.int 6]) (rest := []) ⟨hx, hb, hml, hown, hts⟩ (k_X1_readTarget l D cI cZ cC cS H.size a0 a1 a2 g0_1 x305 f1 (.int r306.1) r306.2.1 (.int r306.2.2.1) (.int r306.2.2.2.1) (.ref a3) 6 r326 hcr326) (cwV 1 hts gX1_readWork_X1_readTarget rfl rfl rfl nd_X1_readTarget ⟨Nat.le_of_ble_eq_true rfl, Nat.le_of_ble_eq_true rfl⟩) (PB.preV (ci := 1) (q0 := 0) hKU hP hD [0, 1, 2] rfl rfl rfl rfl) rfl rfl hl.1 rfl (lv_room (Nat.le_of_ble_eq_true rfl)) dX1_readWork_223 ⟨Nat.zero_le _, Nat.zero_le _⟩) hS hP hD hA [0, 1, 2] rfl rfl (by first | (simp only [wset, List.set_cons_zero, List.set_cons_succ]; done) | rfl) rfl (fun H locs hP hD hS hzr326 => ?_)
      have hres := Option.some.inj hsp
      subst hres
      exact W.zret (v := r326.1) hx hb hr (zE hzr326) (fun t ht hW => ⟨⟨r326.1, (), rfl, ⟨rfl, hzr326⟩, P_at ht hP⟩, hS.F ht⟩) hS.2.2 dX1_readWork_226
    have hsp := itF hsp c325
    refine lv_lookup (off := 127) (tgt := 227) hx hb dX1_readWork_100 (by decide) ((lv_osw c307 (by decide)).trans ((lv_osw c309 (by decide)).trans ((lv_osw c317 (by decide)).trans ((lv_osw c325 (by decide)).trans rfl)))) (by decide) ?_
    refine lv_iconst (v := 1) hx hb dX1_readWork_227 (by decide) ?_
    have hres := Option.some.inj hsp
    subst hres
    exact W.zret (v := 1) hx hb hr (zE (Or.inr rfl)) (fun t ht hW => ⟨⟨1, (), rfl, ⟨rfl, (Or.inr rfl)⟩, P_at ht hP⟩, hS.F ht⟩) hS.2.2 dX1_readWork_228
  have hsp := itF hsp c165
  refine lv_iload_n hx hb dX1_readWork_25 rfl (lv_at hl 0 rfl) ?_
  refine lv_bipush (v := 62) hx hb dX1_readWork_26 (by decide) ?_
  refine lv_icmp_ne (tgt := 35) hx hb dX1_readWork_28 (by decide) (fun c327 => ?_) (fun c327 => ?_)
  · have hsp := itF hsp c327
    refine lv_iconst (v := 0) hx hb dX1_readWork_35 (by decide) ?_
    refine lv_istore_n (lv' := [(3, .int 0), (2, .int r2), (1, .int r1.1), (0, .ref a0)]) hx hb dX1_readWork_36 rfl hl (by decide) rfl (fun ls hl => ?_)
    refine lv_iload_n hx hb dX1_readWork_37 rfl (lv_at hl 1 rfl) ?_
    refine lv_bipush (v := 100) hx hb dX1_readWork_38 (by decide) ?_
    refine lv_icmp_eq (tgt := 55) hx hb dX1_readWork_40 (by decide) (fun c328 => ?_) (fun c328 => ?_)
    · have hsp := itT hsp c328
      refine lv_iconst (v := 1) hx hb dX1_readWork_55 (by decide) ?_
      refine lv_goto (tgt := 60) hx hb dX1_readWork_56 (by decide) ?_
      refine lv_istore (lv' := [(4, .int 1), (3, .int 0), (2, .int r2), (1, .int r1.1), (0, .ref a0)]) hx hb dX1_readWork_60 hl (by decide) rfl (fun ls hl => ?_)
      refine lv_iload_n hx hb dX1_readWork_62 rfl (lv_at hl 3 rfl) ?_
      refine lv_if_lt (tgt := 73) hx hb dX1_readWork_63 (by decide) (fun c329 => ?_) (fun c329 => ?_)
      · have hsp := itT hsp c329
        refine lv_iload hx hb dX1_readWork_73 (lv_at hl 0 rfl) ?_
        refine lv_if_ne (tgt := 80) hx hb dX1_readWork_75 (by decide) (fun _ => ?_) (fun hc => absurd hc (by decide))
        refine lv_aload_n hx hb dX1_readWork_80 rfl (lv_at hl 4 rfl) ?_
        refine lv_dup hx hb dX1_readWork_81 rfl ?_
        refine va_get (D := D) (ci := 1) (v := .int r1.2) (C := RX1) (T := TX1) (N := 4) hx hb hts hi_X1 hown hK hP 0 rfl rfl 2 (by decide) hf_19 (fun _ h9 => h9) rfl dX1_readWork_82 ?_
        refine lv_iconst (v := 1) hx hb dX1_readWork_85 (by decide) ?_
        refine lv_iadd hx hb dX1_readWork_86 ?_
        obtain ⟨x330, ex330, hsp⟩ := nmE hsp
        refine r_top ex330 ?_
        refine va_put (D := D) (ci := 1) (v := .int x330) (ty := .int) (C := RX1) (T := TX1) (N := 4) hx hb hts hi_X1 tyX1 tyX1_ok nmX1 hown hK hP hD hS 0 rfl rfl 2 (by decide) hf_19 (fun _ h9 => h9) rfl (by decide +kernel) rfl rfl (Nat.le_of_ble_eq_true rfl) dX1_readWork_87 (fun H locs hP hD hS => ?_)
        have hP : va_P D vwCl [(a0, .inr (1, [.ref a1, .int g0_1, .int x330, .ref a2])), (a1, .inl (cI, 60, .inl f1)), (a2, .inr (3, [.int g2_0, .int g2_1, .int g2_2, .int g2_3, .ref a3])), (a3, .inl (cI, 4, .inl f3))] H := hP
        have hD : va_D A [(a0, .inr (1, [.ref a1, .int g0_1, .int x330, .ref a2])), (a1, .inl (cI, 60, .inl f1)), (a2, .inr (3, [.int g2_0, .int g2_1, .int g2_2, .int g2_3, .ref a3])), (a3, .inl (cI, 4, .inl f3))] := hD
        refine lv_aload_n hx hb dX1_readWork_90 rfl (lv_at hl 4 rfl) ?_
        refine va_get (D := D) (ci := 1) (v := .ref a2) (C := RX1) (T := TX1) (N := 4) hx hb hts hi_X1 hown hK hP 0 rfl rfl 3 (by decide) hf_25 (fun _ h9 => h9) rfl dX1_readWork_91 ?_
        refine lv_iload_n hx hb dX1_readWork_94 rfl (lv_at hl 2 rfl) ?_
        refine lv_iload_n hx hb dX1_readWork_95 rfl (lv_at hl 3 rfl) ?_
        obtain ⟨r331, hcr331, hsp⟩ := clE hsp
        refine call_v (w1 := [(a2, .inr (3, [.int r331.1, .int r331.2.1, .int r331.2.2.1, .int r331.2.2.2.1, .ref a3])), (a3, .inl (cI, 4, .inl r331.2.2.2.2))]) (ws' := [(a0, .inr (1, [.ref a1, .int g0_1, .int x330, .ref a2])), (a1, .inl (cI, 60, .inl f1)), (a2, .inr (3, [.int r331.1, .int r331.2.1, .int r331.2.2.1, .int r331.2.2.2.1, .ref a3])), (a3, .inl (cI, 4, .inl r331.2.2.2.2))]) (va_runV (As := [.int r2, .int r1.1]) (rest := []) ⟨hx, hb, hml, hown, hts⟩ (k_X3_begin l D cI cZ cC cS H.size a2 a3 g2_0 g2_1 g2_2 g2_3 f3 r2 r1.1 r331 hcr331) (cwV 2 hts gX1_readWork_X3_begin rfl rfl rfl nd_X3_begin ⟨Nat.le_of_ble_eq_true rfl, Nat.le_of_ble_eq_true rfl⟩) (PB.preV (ci := 3) (q0 := 2) hKU hP hD [2, 3] rfl rfl rfl rfl) rfl rfl hl.1 rfl (lv_room (Nat.le_of_ble_eq_true rfl)) dX1_readWork_96 ⟨Nat.zero_le _, Nat.zero_le _⟩) hS hP hD hA [2, 3] rfl rfl (by first | (simp only [wset, List.set_cons_zero, List.set_cons_succ]; done) | rfl) rfl (fun H locs hP hD hS => ?_)
        refine lv_iload_n hx hb dX1_readWork_99 rfl (lv_at hl 2 rfl) ?_
        by_cases c332 : r2 = 43
        · have hsp := itT hsp c332
          refine lv_lookup (off := 44) (tgt := 144) hx hb dX1_readWork_100 (by decide) (by rw [c332]; decide) (by decide) ?_
          refine lv_aload_n hx hb dX1_readWork_144 rfl (lv_at hl 4 rfl) ?_
          obtain ⟨r333, hcr333, hsp⟩ := clE hsp
          refine call_z (w1 := [(a0, .inr (1, [.ref a1, .int g0_1, .int r333.2.1, .ref a2])), (a1, .inl (cI, 60, .inl f1)), (a2, .inr (3, [.int r331.1, .int r331.2.1, .int r331.2.2.1, .int r331.2.2.2.1, .ref a3])), (a3, .inl (cI, 4, .inl r333.2.2))]) (ws' := [(a0, .inr (1, [.ref a1, .int g0_1, .int r333.2.1, .ref a2])), (a1, .inl (cI, 60, .inl f1)), (a2, .inr (3, [.int r331.1, .int r331.2.1, .int r331.2.2.1, .int r331.2.2.2.1, .ref a3])), (a3, .inl (cI, 4, .inl r333.2.2))]) (va_runV (As := []) (rest := []) ⟨hx, hb, hml, hown, hts⟩ (k_X1_readKinds l D cI cZ cC cS H.size a0 a1 a2 a3 g0_1 x330 f1 (.int r331.1) (.int r331.2.1) (.int r331.2.2.1) (.int r331.2.2.2.1) r331.2.2.2.2 r333 hcr333) (cwV 0 hts gX1_readWork_X1_readKinds rfl rfl rfl nd_X1_readKinds ⟨Nat.le_of_ble_eq_true rfl, Nat.le_of_ble_eq_true rfl⟩) (PB.preV (ci := 1) (q0 := 0) hKU hP hD [0, 1, 2, 3] rfl rfl rfl rfl) rfl rfl hl.1 rfl (lv_room (Nat.le_of_ble_eq_true rfl)) dX1_readWork_145 ⟨Nat.zero_le _, Nat.zero_le _⟩) hS hP hD hA [0, 1, 2, 3] rfl rfl (by first | (simp only [wset, List.set_cons_zero, List.set_cons_succ]; done) | rfl) rfl (fun H locs hP hD hS hzr333 => ?_)
          have hres := Option.some.inj hsp
          subst hres
          exact W.zret (v := r333.1) hx hb hr (zE hzr333) (fun t ht hW => ⟨⟨r333.1, (), rfl, ⟨rfl, hzr333⟩, P_at ht hP⟩, hS.F ht⟩) hS.2.2 dX1_readWork_148
        have hsp := itF hsp c332
        by_cases c334 : r2 = 62
        · have hsp := itT hsp c334
          refine lv_lookup (off := 49) (tgt := 149) hx hb dX1_readWork_100 (by decide) (by rw [c334]; decide) (by decide) ?_
          refine lv_aload_n hx hb dX1_readWork_149 rfl (lv_at hl 4 rfl) ?_
          obtain ⟨r335, hcr335, hsp⟩ := clE hsp
          refine call_z (w1 := [(a0, .inr (1, [.ref a1, .int g0_1, .int r335.2.1, .ref a2])), (a1, .inl (cI, 60, .inl f1)), (a2, .inr (3, [.int r331.1, .int r331.2.1, .int r335.2.2, .int r331.2.2.2.1, .ref a3]))]) (ws' := [(a0, .inr (1, [.ref a1, .int g0_1, .int r335.2.1, .ref a2])), (a1, .inl (cI, 60, .inl f1)), (a2, .inr (3, [.int r331.1, .int r331.2.1, .int r335.2.2, .int r331.2.2.2.1, .ref a3])), (a3, .inl (cI, 4, .inl r331.2.2.2.2))]) (va_runV (As := []) (rest := []) ⟨hx, hb, hml, hown, hts⟩ (k_X1_readOther l D cI cZ cC cS H.size a0 a1 a2 g0_1 x330 f1 (.int r331.1) (.int r331.2.1) r331.2.2.1 (.int r331.2.2.2.1) (.ref a3) r335 hcr335) (cwV 0 hts gX1_readWork_X1_readOther rfl rfl rfl nd_X1_readOther ⟨Nat.le_of_ble_eq_true rfl, Nat.le_of_ble_eq_true rfl⟩) (PB.preV (ci := 1) (q0 := 0) hKU hP hD [0, 1, 2] rfl rfl rfl rfl) rfl rfl hl.1 rfl (lv_room (Nat.le_of_ble_eq_true rfl)) dX1_readWork_150 ⟨Nat.zero_le _, Nat.zero_le _⟩) hS hP hD hA [0, 1, 2] rfl rfl (by first | (simp only [wset, List.set_cons_zero, List.set_cons_succ]; done) | rfl) rfl (fun H locs hP hD hS hzr335 => ?_)
          refine lv_if_eq (tgt := 180) hx hb dX1_readWork_153 (by decide) (fun c336 => ?_) (fun c336 => ?_)
          · have hsp := itT hsp c336
            refine lv_iconst (v := 0) hx hb dX1_readWork_180 (by decide) ?_
            have hres := Option.some.inj hsp
            subst hres
            exact W.zret (v := 0) hx hb hr (zE (Or.inl rfl)) (fun t ht hW => ⟨⟨0, (), rfl, ⟨rfl, (Or.inl rfl)⟩, P_at ht hP⟩, hS.F ht⟩) hS.2.2 dX1_readWork_181
          have hsp := itF hsp c336
          refine lv_aload_n hx hb dX1_readWork_156 rfl (lv_at hl 4 rfl) ?_
          refine lv_bipush (v := 58) hx hb dX1_readWork_157 (by decide) ?_
          obtain ⟨r337, hcr337, hsp⟩ := clE hsp
          refine call_z (w1 := [(a0, .inr (1, [.ref a1, .int g0_1, .int r337.2, .ref a2])), (a1, .inl (cI, 60, .inl f1))]) (ws' := [(a0, .inr (1, [.ref a1, .int g0_1, .int r337.2, .ref a2])), (a1, .inl (cI, 60, .inl f1)), (a2, .inr (3, [.int r331.1, .int r331.2.1, .int r335.2.2, .int r331.2.2.2.1, .ref a3])), (a3, .inl (cI, 4, .inl r331.2.2.2.2))]) (va_runV (As := [.int 58]) (rest := []) ⟨hx, hb, hml, hown, hts⟩ (k_X1_readSign l D cI cZ cC cS H.size a0 a1 g0_1 r335.2.1 (.ref a2) f1 58 r337 hcr337) (cwV 1 hts gX1_readWork_X1_readSign rfl rfl rfl nd_X1_readSign ⟨Nat.le_of_ble_eq_true rfl, Nat.le_of_ble_eq_true rfl⟩) (PB.preV (ci := 1) (q0 := 0) hKU hP hD [0, 1] rfl rfl rfl rfl) rfl rfl hl.1 rfl (lv_room (Nat.le_of_ble_eq_true rfl)) dX1_readWork_159 ⟨Nat.zero_le _, Nat.zero_le _⟩) hS hP hD hA [0, 1] rfl rfl (by first | (simp only [wset, List.set_cons_zero, List.set_cons_succ]; done) | rfl) rfl (fun H locs hP hD hS hzr337 => ?_)
          refine lv_if_eq (tgt := 180) hx hb dX1_readWork_162 (by decide) (fun c338 => ?_) (fun c338 => ?_)
          · have hsp := itT hsp c338
            refine lv_iconst (v := 0) hx hb dX1_readWork_180 (by decide) ?_
            have hres := Option.some.inj hsp
            subst hres
            exact W.zret (v := 0) hx hb hr (zE (Or.inl rfl)) (fun t ht hW => ⟨⟨0, (), rfl, ⟨rfl, (Or.inl rfl)⟩, P_at ht hP⟩, hS.F ht⟩) hS.2.2 dX1_readWork_181
          have hsp := itF hsp c338
          refine lv_aload_n hx hb dX1_readWork_165 rfl (lv_at hl 4 rfl) ?_
          refine lv_aload_n hx hb dX1_readWork_166 rfl (lv_at hl 4 rfl) ?_
          obtain ⟨r339, hcr339, hsp⟩ := clE hsp
          refine call_i (w1 := [(a0, .inr (1, [.ref a1, .int g0_1, .int r339.2, .ref a2])), (a1, .inl (cI, 60, .inl f1))]) (ws' := [(a0, .inr (1, [.ref a1, .int g0_1, .int r339.2, .ref a2])), (a1, .inl (cI, 60, .inl f1)), (a2, .inr (3, [.int r331.1, .int r331.2.1, .int r335.2.2, .int r331.2.2.2.1, .ref a3])), (a3, .inl (cI, 4, .inl r331.2.2.2.2))]) (va_runV (As := []) (rest := [.ref a0]) ⟨hx, hb, hml, hown, hts⟩ (k_X1_readNumber l D cI cZ cC cS H.size a0 a1 g0_1 r337.2 (.ref a2) f1 r339 hcr339) (cwV 0 hts gX1_readWork_X1_readNumber rfl rfl rfl nd_X1_readNumber ⟨Nat.le_of_ble_eq_true rfl, Nat.le_of_ble_eq_true rfl⟩) (PB.preV (ci := 1) (q0 := 0) hKU hP hD [0, 1] rfl rfl rfl rfl) rfl rfl hl.1 rfl (lv_room (Nat.le_of_ble_eq_true rfl)) dX1_readWork_167 ⟨Nat.zero_le _, Nat.zero_le _⟩) hS hP hD hA [0, 1] rfl rfl (by first | (simp only [wset, List.set_cons_zero, List.set_cons_succ]; done) | rfl) rfl (fun H locs hP hD hS => ?_)
          obtain ⟨r340, hcr340, hsp⟩ := clE hsp
          refine call_z (w1 := [(a0, .inr (1, [.ref a1, .int g0_1, .int r339.2, .ref a2])), (a2, .inr (3, [.int r331.1, .int r331.2.1, .int r335.2.2, .int r340.2, .ref a3]))]) (ws' := [(a0, .inr (1, [.ref a1, .int g0_1, .int r339.2, .ref a2])), (a1, .inl (cI, 60, .inl f1)), (a2, .inr (3, [.int r331.1, .int r331.2.1, .int r335.2.2, .int r340.2, .ref a3])), (a3, .inl (cI, 4, .inl r331.2.2.2.2))]) (va_runV (As := [.int r339.1]) (rest := []) ⟨hx, hb, hml, hown, hts⟩ (k_X1_readDrops l D cI cZ cC cS H.size a0 a2 (.ref a1) (.int g0_1) (.int r339.2) (.int r331.1) (.int r331.2.1) (.int r335.2.2) r331.2.2.2.1 (.ref a3) r339.1 r340 hcr340) (cwV 1 hts gX1_readWork_X1_readDrops rfl rfl rfl nd_X1_readDrops ⟨Nat.le_of_ble_eq_true rfl, Nat.le_of_ble_eq_true rfl⟩) (PB.preV (ci := 1) (q0 := 0) hKU hP hD [0, 2] rfl rfl rfl rfl) rfl rfl hl.1 rfl (lv_room (Nat.le_of_ble_eq_true rfl)) dX1_readWork_170 ⟨Nat.zero_le _, Nat.zero_le _⟩) hS hP hD hA [0, 2] rfl rfl (by first | (simp only [wset, List.set_cons_zero, List.set_cons_succ]; done) | rfl) rfl (fun H locs hP hD hS hzr340 => ?_)
          refine lv_if_eq (tgt := 180) hx hb dX1_readWork_173 (by decide) (fun c341 => ?_) (fun c341 => ?_)
          · have hsp := itT hsp c341
            refine lv_iconst (v := 0) hx hb dX1_readWork_180 (by decide) ?_
            have hres := Option.some.inj hsp
            subst hres
            exact W.zret (v := 0) hx hb hr (zE (Or.inl rfl)) (fun t ht hW => ⟨⟨0, (), rfl, ⟨rfl, (Or.inl rfl)⟩, P_at ht hP⟩, hS.F ht⟩) hS.2.2 dX1_readWork_181
          have hsp := itF hsp c341
          refine lv_iconst (v := 1) hx hb dX1_readWork_176 (by decide) ?_
          refine lv_goto (tgt := 181) hx hb dX1_readWork_177 (by decide) ?_
          have hres := Option.some.inj hsp
          subst hres
          exact W.zret (v := 1) hx hb hr (zE (Or.inr rfl)) (fun t ht hW => ⟨⟨1, (), rfl, ⟨rfl, (Or.inr rfl)⟩, P_at ht hP⟩, hS.F ht⟩) hS.2.2 dX1_readWork_181
        have hsp := itF hsp c334
        by_cases c342 : r2 = 100
        · have hsp := itT hsp c342
          refine lv_lookup (off := 82) (tgt := 182) hx hb dX1_readWork_100 (by decide) (by rw [c342]; decide) (by decide) ?_
          refine lv_aload_n hx hb dX1_readWork_182 rfl (lv_at hl 4 rfl) ?_
          refine lv_bipush (v := 8) hx hb dX1_readWork_183 (by decide) ?_
          obtain ⟨r343, hcr343, hsp⟩ := clE hsp
          refine call_z (w1 := [(a0, .inr (1, [.ref a1, .int g0_1, .int r343.2.1, .ref a2])), (a1, .inl (cI, 60, .inl f1)), (a2, .inr (3, [.int r331.1, .int r343.2.2, .int r331.2.2.1, .int r331.2.2.2.1, .ref a3]))]) (ws' := [(a0, .inr (1, [.ref a1, .int g0_1, .int r343.2.1, .ref a2])), (a1, .inl (cI, 60, .inl f1)), (a2, .inr (3, [.int r331.1, .int r343.2.2, .int r331.2.2.1, .int r331.2.2.2.1, .ref a3])), (a3, .inl (cI, 4, .inl r331.2.2.2.2))]) (va_runV (As := [.int 8]) (rest := []) ⟨hx, hb, hml, hown, hts⟩ (k_X1_readTarget l D cI cZ cC cS H.size a0 a1 a2 g0_1 x330 f1 (.int r331.1) r331.2.1 (.int r331.2.2.1) (.int r331.2.2.2.1) (.ref a3) 8 r343 hcr343) (cwV 1 hts gX1_readWork_X1_readTarget rfl rfl rfl nd_X1_readTarget ⟨Nat.le_of_ble_eq_true rfl, Nat.le_of_ble_eq_true rfl⟩) (PB.preV (ci := 1) (q0 := 0) hKU hP hD [0, 1, 2] rfl rfl rfl rfl) rfl rfl hl.1 rfl (lv_room (Nat.le_of_ble_eq_true rfl)) dX1_readWork_185 ⟨Nat.zero_le _, Nat.zero_le _⟩) hS hP hD hA [0, 1, 2] rfl rfl (by first | (simp only [wset, List.set_cons_zero, List.set_cons_succ]; done) | rfl) rfl (fun H locs hP hD hS hzr343 => ?_)
          refine lv_if_eq (tgt := 218) hx hb dX1_readWork_188 (by decide) (fun c344 => ?_) (fun c344 => ?_)
          · have hsp := itT hsp c344
            refine lv_iconst (v := 0) hx hb dX1_readWork_218 (by decide) ?_
            have hres := Option.some.inj hsp
            subst hres
            exact W.zret (v := 0) hx hb hr (zE (Or.inl rfl)) (fun t ht hW => ⟨⟨0, (), rfl, ⟨rfl, (Or.inl rfl)⟩, P_at ht hP⟩, hS.F ht⟩) hS.2.2 dX1_readWork_219
          have hsp := itF hsp c344
          refine lv_aload_n hx hb dX1_readWork_191 rfl (lv_at hl 4 rfl) ?_
          refine lv_bipush (v := 58) hx hb dX1_readWork_192 (by decide) ?_
          obtain ⟨r345, hcr345, hsp⟩ := clE hsp
          refine call_z (w1 := [(a0, .inr (1, [.ref a1, .int g0_1, .int r345.2, .ref a2])), (a1, .inl (cI, 60, .inl f1))]) (ws' := [(a0, .inr (1, [.ref a1, .int g0_1, .int r345.2, .ref a2])), (a1, .inl (cI, 60, .inl f1)), (a2, .inr (3, [.int r331.1, .int r343.2.2, .int r331.2.2.1, .int r331.2.2.2.1, .ref a3])), (a3, .inl (cI, 4, .inl r331.2.2.2.2))]) (va_runV (As := [.int 58]) (rest := []) ⟨hx, hb, hml, hown, hts⟩ (k_X1_readSign l D cI cZ cC cS H.size a0 a1 g0_1 r343.2.1 (.ref a2) f1 58 r345 hcr345) (cwV 1 hts gX1_readWork_X1_readSign rfl rfl rfl nd_X1_readSign ⟨Nat.le_of_ble_eq_true rfl, Nat.le_of_ble_eq_true rfl⟩) (PB.preV (ci := 1) (q0 := 0) hKU hP hD [0, 1] rfl rfl rfl rfl) rfl rfl hl.1 rfl (lv_room (Nat.le_of_ble_eq_true rfl)) dX1_readWork_194 ⟨Nat.zero_le _, Nat.zero_le _⟩) hS hP hD hA [0, 1] rfl rfl (by first | (simp only [wset, List.set_cons_zero, List.set_cons_succ]; done) | rfl) rfl (fun H locs hP hD hS hzr345 => ?_)
          refine lv_if_eq (tgt := 218) hx hb dX1_readWork_197 (by decide) (fun c346 => ?_) (fun c346 => ?_)
          · have hsp := itT hsp c346
            refine lv_iconst (v := 0) hx hb dX1_readWork_218 (by decide) ?_
            have hres := Option.some.inj hsp
            subst hres
            exact W.zret (v := 0) hx hb hr (zE (Or.inl rfl)) (fun t ht hW => ⟨⟨0, (), rfl, ⟨rfl, (Or.inl rfl)⟩, P_at ht hP⟩, hS.F ht⟩) hS.2.2 dX1_readWork_219
          have hsp := itF hsp c346
          refine lv_aload_n hx hb dX1_readWork_200 rfl (lv_at hl 4 rfl) ?_
          refine lv_aload_n hx hb dX1_readWork_201 rfl (lv_at hl 4 rfl) ?_
          refine lv_iconst (v := 1) hx hb dX1_readWork_202 (by decide) ?_
          refine lv_bipush (v := 9) hx hb dX1_readWork_203 (by decide) ?_
          obtain ⟨r347, hcr347, hsp⟩ := clE hsp
          refine call_i (w1 := [(a0, .inr (1, [.ref a1, .int g0_1, .int r347.2, .ref a2])), (a1, .inl (cI, 60, .inl f1))]) (ws' := [(a0, .inr (1, [.ref a1, .int g0_1, .int r347.2, .ref a2])), (a1, .inl (cI, 60, .inl f1)), (a2, .inr (3, [.int r331.1, .int r343.2.2, .int r331.2.2.1, .int r331.2.2.2.1, .ref a3])), (a3, .inl (cI, 4, .inl r331.2.2.2.2))]) (va_runV (As := [.int 1, .int 9]) (rest := [.ref a0]) ⟨hx, hb, hml, hown, hts⟩ (k_X1_readDigit l D cI cZ cC cS H.size a0 a1 g0_1 r345.2 (.ref a2) f1 1 9 r347 hcr347) (cwV 2 hts gX1_readWork_X1_readDigit rfl rfl rfl nd_X1_readDigit ⟨Nat.le_of_ble_eq_true rfl, Nat.le_of_ble_eq_true rfl⟩) (PB.preV (ci := 1) (q0 := 0) hKU hP hD [0, 1] rfl rfl rfl rfl) rfl rfl hl.1 rfl (lv_room (Nat.le_of_ble_eq_true rfl)) dX1_readWork_205 ⟨Nat.zero_le _, Nat.zero_le _⟩) hS hP hD hA [0, 1] rfl rfl (by first | (simp only [wset, List.set_cons_zero, List.set_cons_succ]; done) | rfl) rfl (fun H locs hP hD hS => ?_)
          obtain ⟨r348, hcr348, hsp⟩ := clE hsp
          refine call_z (w1 := [(a0, .inr (1, [.ref a1, .int g0_1, .int r347.2, .ref a2])), (a2, .inr (3, [.int r331.1, .int r343.2.2, .int r331.2.2.1, .int r348.2, .ref a3]))]) (ws' := [(a0, .inr (1, [.ref a1, .int g0_1, .int r347.2, .ref a2])), (a1, .inl (cI, 60, .inl f1)), (a2, .inr (3, [.int r331.1, .int r343.2.2, .int r331.2.2.1, .int r348.2, .ref a3])), (a3, .inl (cI, 4, .inl r331.2.2.2.2))]) (va_runV (As := [.int r347.1]) (rest := []) ⟨hx, hb, hml, hown, hts⟩ (k_X1_readDrops l D cI cZ cC cS H.size a0 a2 (.ref a1) (.int g0_1) (.int r347.2) (.int r331.1) (.int r343.2.2) (.int r331.2.2.1) r331.2.2.2.1 (.ref a3) r347.1 r348 hcr348) (cwV 1 hts gX1_readWork_X1_readDrops rfl rfl rfl nd_X1_readDrops ⟨Nat.le_of_ble_eq_true rfl, Nat.le_of_ble_eq_true rfl⟩) (PB.preV (ci := 1) (q0 := 0) hKU hP hD [0, 2] rfl rfl rfl rfl) rfl rfl hl.1 rfl (lv_room (Nat.le_of_ble_eq_true rfl)) dX1_readWork_208 ⟨Nat.zero_le _, Nat.zero_le _⟩) hS hP hD hA [0, 2] rfl rfl (by first | (simp only [wset, List.set_cons_zero, List.set_cons_succ]; done) | rfl) rfl (fun H locs hP hD hS hzr348 => ?_)
          refine lv_if_eq (tgt := 218) hx hb dX1_readWork_211 (by decide) (fun c349 => ?_) (fun c349 => ?_)
          · have hsp := itT hsp c349
            refine lv_iconst (v := 0) hx hb dX1_readWork_218 (by decide) ?_
            have hres := Option.some.inj hsp
            subst hres
            exact W.zret (v := 0) hx hb hr (zE (Or.inl rfl)) (fun t ht hW => ⟨⟨0, (), rfl, ⟨rfl, (Or.inl rfl)⟩, P_at ht hP⟩, hS.F ht⟩) hS.2.2 dX1_readWork_219
          have hsp := itF hsp c349
          refine lv_iconst (v := 1) hx hb dX1_readWork_214 (by decide) ?_
          refine lv_goto (tgt := 219) hx hb dX1_readWork_215 (by decide) ?_
          have hres := Option.some.inj hsp
          subst hres
          exact W.zret (v := 1) hx hb hr (zE (Or.inr rfl)) (fun t ht hW => ⟨⟨1, (), rfl, ⟨rfl, (Or.inr rfl)⟩, P_at ht hP⟩, hS.F ht⟩) hS.2.2 dX1_readWork_219
        have hsp := itF hsp c342
        by_cases c350 : r2 = 112
        · have hsp := itT hsp c350
          refine lv_lookup (off := 120) (tgt := 220) hx hb dX1_readWork_100 (by decide) (by rw [c350]; decide) (by decide) ?_
          refine lv_aload_n hx hb dX1_readWork_220 rfl (lv_at hl 4 rfl) ?_
          refine lv_bipush (v := 6) hx hb dX1_readWork_221 (by decide) ?_
          obtain ⟨r351, hcr351, hsp⟩ := clE hsp
          refine call_z (w1 := [(a0, .inr (1, [.ref a1, .int g0_1, .int r351.2.1, .ref a2])), (a1, .inl (cI, 60, .inl f1)), (a2, .inr (3, [.int r331.1, .int r351.2.2, .int r331.2.2.1, .int r331.2.2.2.1, .ref a3]))]) (ws' := [(a0, .inr (1, [.ref a1, .int g0_1, .int r351.2.1, .ref a2])), (a1, .inl (cI, 60, .inl f1)), (a2, .inr (3, [.int r331.1, .int r351.2.2, .int r331.2.2.1, .int r331.2.2.2.1, .ref a3])), (a3, .inl (cI, 4, .inl r331.2.2.2.2))]) (va_runV (As := [.int 6]) (rest := []) ⟨hx, hb, hml, hown, hts⟩ (k_X1_readTarget l D cI cZ cC cS H.size a0 a1 a2 g0_1 x330 f1 (.int r331.1) r331.2.1 (.int r331.2.2.1) (.int r331.2.2.2.1) (.ref a3) 6 r351 hcr351) (cwV 1 hts gX1_readWork_X1_readTarget rfl rfl rfl nd_X1_readTarget ⟨Nat.le_of_ble_eq_true rfl, Nat.le_of_ble_eq_true rfl⟩) (PB.preV (ci := 1) (q0 := 0) hKU hP hD [0, 1, 2] rfl rfl rfl rfl) rfl rfl hl.1 rfl (lv_room (Nat.le_of_ble_eq_true rfl)) dX1_readWork_223 ⟨Nat.zero_le _, Nat.zero_le _⟩) hS hP hD hA [0, 1, 2] rfl rfl (by first | (simp only [wset, List.set_cons_zero, List.set_cons_succ]; done) | rfl) rfl (fun H locs hP hD hS hzr351 => ?_)
          have hres := Option.some.inj hsp
          subst hres
          exact W.zret (v := r351.1) hx hb hr (zE hzr351) (fun t ht hW => ⟨⟨r351.1, (), rfl, ⟨rfl, hzr351⟩, P_at ht hP⟩, hS.F ht⟩) hS.2.2 dX1_readWork_226
        have hsp := itF hsp c350
        refine lv_lookup (off := 127) (tgt := 227) hx hb dX1_readWork_100 (by decide) ((lv_osw c332 (by decide)).trans ((lv_osw c334 (by decide)).trans ((lv_osw c342 (by decide)).trans ((lv_osw c350 (by decide)).trans rfl)))) (by decide) ?_
        refine lv_iconst (v := 1) hx hb dX1_readWork_227 (by decide) ?_
        have hres := Option.some.inj hsp
        subst hres
        exact W.zret (v := 1) hx hb hr (zE (Or.inr rfl)) (fun t ht hW => ⟨⟨1, (), rfl, ⟨rfl, (Or.inr rfl)⟩, P_at ht hP⟩, hS.F ht⟩) hS.2.2 dX1_readWork_228
      have hsp := itF hsp c329
      refine lv_iload_n hx hb dX1_readWork_66 rfl (lv_at hl 1 rfl) ?_
      refine lv_if_ne (tgt := 80) hx hb dX1_readWork_67 (by decide) (fun hc => absurd hc (by decide)) (fun _ => ?_)
      refine lv_goto (tgt := 78) hx hb dX1_readWork_70 (by decide) ?_
      refine lv_iconst (v := 0) hx hb dX1_readWork_78 (by decide) ?_
      have hres := Option.some.inj hsp
      subst hres
      exact W.zret (v := 0) hx hb hr (zE (Or.inl rfl)) (fun t ht hW => ⟨⟨0, (), rfl, ⟨rfl, (Or.inl rfl)⟩, P_at ht hP⟩, hS.F ht⟩) hS.2.2 dX1_readWork_79
    have hsp := itF hsp c328
    refine lv_iload_n hx hb dX1_readWork_43 rfl (lv_at hl 1 rfl) ?_
    refine lv_bipush (v := 112) hx hb dX1_readWork_44 (by decide) ?_
    refine lv_icmp_eq (tgt := 55) hx hb dX1_readWork_46 (by decide) (fun c352 => ?_) (fun c352 => ?_)
    · have hsp := itT hsp c352
      refine lv_iconst (v := 1) hx hb dX1_readWork_55 (by decide) ?_
      refine lv_goto (tgt := 60) hx hb dX1_readWork_56 (by decide) ?_
      refine lv_istore (lv' := [(4, .int 1), (3, .int 0), (2, .int r2), (1, .int r1.1), (0, .ref a0)]) hx hb dX1_readWork_60 hl (by decide) rfl (fun ls hl => ?_)
      refine lv_iload_n hx hb dX1_readWork_62 rfl (lv_at hl 3 rfl) ?_
      refine lv_if_lt (tgt := 73) hx hb dX1_readWork_63 (by decide) (fun c353 => ?_) (fun c353 => ?_)
      · have hsp := itT hsp c353
        refine lv_iload hx hb dX1_readWork_73 (lv_at hl 0 rfl) ?_
        refine lv_if_ne (tgt := 80) hx hb dX1_readWork_75 (by decide) (fun _ => ?_) (fun hc => absurd hc (by decide))
        refine lv_aload_n hx hb dX1_readWork_80 rfl (lv_at hl 4 rfl) ?_
        refine lv_dup hx hb dX1_readWork_81 rfl ?_
        refine va_get (D := D) (ci := 1) (v := .int r1.2) (C := RX1) (T := TX1) (N := 4) hx hb hts hi_X1 hown hK hP 0 rfl rfl 2 (by decide) hf_19 (fun _ h9 => h9) rfl dX1_readWork_82 ?_
        refine lv_iconst (v := 1) hx hb dX1_readWork_85 (by decide) ?_
        refine lv_iadd hx hb dX1_readWork_86 ?_
        obtain ⟨x354, ex354, hsp⟩ := nmE hsp
        refine r_top ex354 ?_
        refine va_put (D := D) (ci := 1) (v := .int x354) (ty := .int) (C := RX1) (T := TX1) (N := 4) hx hb hts hi_X1 tyX1 tyX1_ok nmX1 hown hK hP hD hS 0 rfl rfl 2 (by decide) hf_19 (fun _ h9 => h9) rfl (by decide +kernel) rfl rfl (Nat.le_of_ble_eq_true rfl) dX1_readWork_87 (fun H locs hP hD hS => ?_)
        have hP : va_P D vwCl [(a0, .inr (1, [.ref a1, .int g0_1, .int x354, .ref a2])), (a1, .inl (cI, 60, .inl f1)), (a2, .inr (3, [.int g2_0, .int g2_1, .int g2_2, .int g2_3, .ref a3])), (a3, .inl (cI, 4, .inl f3))] H := hP
        have hD : va_D A [(a0, .inr (1, [.ref a1, .int g0_1, .int x354, .ref a2])), (a1, .inl (cI, 60, .inl f1)), (a2, .inr (3, [.int g2_0, .int g2_1, .int g2_2, .int g2_3, .ref a3])), (a3, .inl (cI, 4, .inl f3))] := hD
        refine lv_aload_n hx hb dX1_readWork_90 rfl (lv_at hl 4 rfl) ?_
        refine va_get (D := D) (ci := 1) (v := .ref a2) (C := RX1) (T := TX1) (N := 4) hx hb hts hi_X1 hown hK hP 0 rfl rfl 3 (by decide) hf_25 (fun _ h9 => h9) rfl dX1_readWork_91 ?_
        refine lv_iload_n hx hb dX1_readWork_94 rfl (lv_at hl 2 rfl) ?_
        refine lv_iload_n hx hb dX1_readWork_95 rfl (lv_at hl 3 rfl) ?_
        obtain ⟨r355, hcr355, hsp⟩ := clE hsp
        refine call_v (w1 := [(a2, .inr (3, [.int r355.1, .int r355.2.1, .int r355.2.2.1, .int r355.2.2.2.1, .ref a3])), (a3, .inl (cI, 4, .inl r355.2.2.2.2))]) (ws' := [(a0, .inr (1, [.ref a1, .int g0_1, .int x354, .ref a2])), (a1, .inl (cI, 60, .inl f1)), (a2, .inr (3, [.int r355.1, .int r355.2.1, .int r355.2.2.1, .int r355.2.2.2.1, .ref a3])), (a3, .inl (cI, 4, .inl r355.2.2.2.2))]) (va_runV (As := [.int r2, .int r1.1]) (rest := []) ⟨hx, hb, hml, hown, hts⟩ (k_X3_begin l D cI cZ cC cS H.size a2 a3 g2_0 g2_1 g2_2 g2_3 f3 r2 r1.1 r355 hcr355) (cwV 2 hts gX1_readWork_X3_begin rfl rfl rfl nd_X3_begin ⟨Nat.le_of_ble_eq_true rfl, Nat.le_of_ble_eq_true rfl⟩) (PB.preV (ci := 3) (q0 := 2) hKU hP hD [2, 3] rfl rfl rfl rfl) rfl rfl hl.1 rfl (lv_room (Nat.le_of_ble_eq_true rfl)) dX1_readWork_96 ⟨Nat.zero_le _, Nat.zero_le _⟩) hS hP hD hA [2, 3] rfl rfl (by first | (simp only [wset, List.set_cons_zero, List.set_cons_succ]; done) | rfl) rfl (fun H locs hP hD hS => ?_)
        refine lv_iload_n hx hb dX1_readWork_99 rfl (lv_at hl 2 rfl) ?_
        by_cases c356 : r2 = 43
        · have hsp := itT hsp c356
          refine lv_lookup (off := 44) (tgt := 144) hx hb dX1_readWork_100 (by decide) (by rw [c356]; decide) (by decide) ?_
          refine lv_aload_n hx hb dX1_readWork_144 rfl (lv_at hl 4 rfl) ?_
          obtain ⟨r357, hcr357, hsp⟩ := clE hsp
          refine call_z (w1 := [(a0, .inr (1, [.ref a1, .int g0_1, .int r357.2.1, .ref a2])), (a1, .inl (cI, 60, .inl f1)), (a2, .inr (3, [.int r355.1, .int r355.2.1, .int r355.2.2.1, .int r355.2.2.2.1, .ref a3])), (a3, .inl (cI, 4, .inl r357.2.2))]) (ws' := [(a0, .inr (1, [.ref a1, .int g0_1, .int r357.2.1, .ref a2])), (a1, .inl (cI, 60, .inl f1)), (a2, .inr (3, [.int r355.1, .int r355.2.1, .int r355.2.2.1, .int r355.2.2.2.1, .ref a3])), (a3, .inl (cI, 4, .inl r357.2.2))]) (va_runV (As := []) (rest := []) ⟨hx, hb, hml, hown, hts⟩ (k_X1_readKinds l D cI cZ cC cS H.size a0 a1 a2 a3 g0_1 x354 f1 (.int r355.1) (.int r355.2.1) (.int r355.2.2.1) (.int r355.2.2.2.1) r355.2.2.2.2 r357 hcr357) (cwV 0 hts gX1_readWork_X1_readKinds rfl rfl rfl nd_X1_readKinds ⟨Nat.le_of_ble_eq_true rfl, Nat.le_of_ble_eq_true rfl⟩) (PB.preV (ci := 1) (q0 := 0) hKU hP hD [0, 1, 2, 3] rfl rfl rfl rfl) rfl rfl hl.1 rfl (lv_room (Nat.le_of_ble_eq_true rfl)) dX1_readWork_145 ⟨Nat.zero_le _, Nat.zero_le _⟩) hS hP hD hA [0, 1, 2, 3] rfl rfl (by first | (simp only [wset, List.set_cons_zero, List.set_cons_succ]; done) | rfl) rfl (fun H locs hP hD hS hzr357 => ?_)
          have hres := Option.some.inj hsp
          subst hres
          exact W.zret (v := r357.1) hx hb hr (zE hzr357) (fun t ht hW => ⟨⟨r357.1, (), rfl, ⟨rfl, hzr357⟩, P_at ht hP⟩, hS.F ht⟩) hS.2.2 dX1_readWork_148
        have hsp := itF hsp c356
        by_cases c358 : r2 = 62
        · have hsp := itT hsp c358
          refine lv_lookup (off := 49) (tgt := 149) hx hb dX1_readWork_100 (by decide) (by rw [c358]; decide) (by decide) ?_
          refine lv_aload_n hx hb dX1_readWork_149 rfl (lv_at hl 4 rfl) ?_
          obtain ⟨r359, hcr359, hsp⟩ := clE hsp
          refine call_z (w1 := [(a0, .inr (1, [.ref a1, .int g0_1, .int r359.2.1, .ref a2])), (a1, .inl (cI, 60, .inl f1)), (a2, .inr (3, [.int r355.1, .int r355.2.1, .int r359.2.2, .int r355.2.2.2.1, .ref a3]))]) (ws' := [(a0, .inr (1, [.ref a1, .int g0_1, .int r359.2.1, .ref a2])), (a1, .inl (cI, 60, .inl f1)), (a2, .inr (3, [.int r355.1, .int r355.2.1, .int r359.2.2, .int r355.2.2.2.1, .ref a3])), (a3, .inl (cI, 4, .inl r355.2.2.2.2))]) (va_runV (As := []) (rest := []) ⟨hx, hb, hml, hown, hts⟩ (k_X1_readOther l D cI cZ cC cS H.size a0 a1 a2 g0_1 x354 f1 (.int r355.1) (.int r355.2.1) r355.2.2.1 (.int r355.2.2.2.1) (.ref a3) r359 hcr359) (cwV 0 hts gX1_readWork_X1_readOther rfl rfl rfl nd_X1_readOther ⟨Nat.le_of_ble_eq_true rfl, Nat.le_of_ble_eq_true rfl⟩) (PB.preV (ci := 1) (q0 := 0) hKU hP hD [0, 1, 2] rfl rfl rfl rfl) rfl rfl hl.1 rfl (lv_room (Nat.le_of_ble_eq_true rfl)) dX1_readWork_150 ⟨Nat.zero_le _, Nat.zero_le _⟩) hS hP hD hA [0, 1, 2] rfl rfl (by first | (simp only [wset, List.set_cons_zero, List.set_cons_succ]; done) | rfl) rfl (fun H locs hP hD hS hzr359 => ?_)
          refine lv_if_eq (tgt := 180) hx hb dX1_readWork_153 (by decide) (fun c360 => ?_) (fun c360 => ?_)
          · have hsp := itT hsp c360
            refine lv_iconst (v := 0) hx hb dX1_readWork_180 (by decide) ?_
            have hres := Option.some.inj hsp
            subst hres
            exact W.zret (v := 0) hx hb hr (zE (Or.inl rfl)) (fun t ht hW => ⟨⟨0, (), rfl, ⟨rfl, (Or.inl rfl)⟩, P_at ht hP⟩, hS.F ht⟩) hS.2.2 dX1_readWork_181
          have hsp := itF hsp c360
          refine lv_aload_n hx hb dX1_readWork_156 rfl (lv_at hl 4 rfl) ?_
          refine lv_bipush (v := 58) hx hb dX1_readWork_157 (by decide) ?_
          obtain ⟨r361, hcr361, hsp⟩ := clE hsp
          refine call_z (w1 := [(a0, .inr (1, [.ref a1, .int g0_1, .int r361.2, .ref a2])), (a1, .inl (cI, 60, .inl f1))]) (ws' := [(a0, .inr (1, [.ref a1, .int g0_1, .int r361.2, .ref a2])), (a1, .inl (cI, 60, .inl f1)), (a2, .inr (3, [.int r355.1, .int r355.2.1, .int r359.2.2, .int r355.2.2.2.1, .ref a3])), (a3, .inl (cI, 4, .inl r355.2.2.2.2))]) (va_runV (As := [.int 58]) (rest := []) ⟨hx, hb, hml, hown, hts⟩ (k_X1_readSign l D cI cZ cC cS H.size a0 a1 g0_1 r359.2.1 (.ref a2) f1 58 r361 hcr361) (cwV 1 hts gX1_readWork_X1_readSign rfl rfl rfl nd_X1_readSign ⟨Nat.le_of_ble_eq_true rfl, Nat.le_of_ble_eq_true rfl⟩) (PB.preV (ci := 1) (q0 := 0) hKU hP hD [0, 1] rfl rfl rfl rfl) rfl rfl hl.1 rfl (lv_room (Nat.le_of_ble_eq_true rfl)) dX1_readWork_159 ⟨Nat.zero_le _, Nat.zero_le _⟩) hS hP hD hA [0, 1] rfl rfl (by first | (simp only [wset, List.set_cons_zero, List.set_cons_succ]; done) | rfl) rfl (fun H locs hP hD hS hzr361 => ?_)
          refine lv_if_eq (tgt := 180) hx hb dX1_readWork_162 (by decide) (fun c362 => ?_) (fun c362 => ?_)
          · have hsp := itT hsp c362
            refine lv_iconst (v := 0) hx hb dX1_readWork_180 (by decide) ?_
            have hres := Option.some.inj hsp
            subst hres
            exact W.zret (v := 0) hx hb hr (zE (Or.inl rfl)) (fun t ht hW => ⟨⟨0, (), rfl, ⟨rfl, (Or.inl rfl)⟩, P_at ht hP⟩, hS.F ht⟩) hS.2.2 dX1_readWork_181
          have hsp := itF hsp c362
          refine lv_aload_n hx hb dX1_readWork_165 rfl (lv_at hl 4 rfl) ?_
          refine lv_aload_n hx hb dX1_readWork_166 rfl (lv_at hl 4 rfl) ?_
          obtain ⟨r363, hcr363, hsp⟩ := clE hsp
          refine call_i (w1 := [(a0, .inr (1, [.ref a1, .int g0_1, .int r363.2, .ref a2])), (a1, .inl (cI, 60, .inl f1))]) (ws' := [(a0, .inr (1, [.ref a1, .int g0_1, .int r363.2, .ref a2])), (a1, .inl (cI, 60, .inl f1)), (a2, .inr (3, [.int r355.1, .int r355.2.1, .int r359.2.2, .int r355.2.2.2.1, .ref a3])), (a3, .inl (cI, 4, .inl r355.2.2.2.2))]) (va_runV (As := []) (rest := [.ref a0]) ⟨hx, hb, hml, hown, hts⟩ (k_X1_readNumber l D cI cZ cC cS H.size a0 a1 g0_1 r361.2 (.ref a2) f1 r363 hcr363) (cwV 0 hts gX1_readWork_X1_readNumber rfl rfl rfl nd_X1_readNumber ⟨Nat.le_of_ble_eq_true rfl, Nat.le_of_ble_eq_true rfl⟩) (PB.preV (ci := 1) (q0 := 0) hKU hP hD [0, 1] rfl rfl rfl rfl) rfl rfl hl.1 rfl (lv_room (Nat.le_of_ble_eq_true rfl)) dX1_readWork_167 ⟨Nat.zero_le _, Nat.zero_le _⟩) hS hP hD hA [0, 1] rfl rfl (by first | (simp only [wset, List.set_cons_zero, List.set_cons_succ]; done) | rfl) rfl (fun H locs hP hD hS => ?_)
          obtain ⟨r364, hcr364, hsp⟩ := clE hsp
          refine call_z (w1 := [(a0, .inr (1, [.ref a1, .int g0_1, .int r363.2, .ref a2])), (a2, .inr (3, [.int r355.1, .int r355.2.1, .int r359.2.2, .int r364.2, .ref a3]))]) (ws' := [(a0, .inr (1, [.ref a1, .int g0_1, .int r363.2, .ref a2])), (a1, .inl (cI, 60, .inl f1)), (a2, .inr (3, [.int r355.1, .int r355.2.1, .int r359.2.2, .int r364.2, .ref a3])), (a3, .inl (cI, 4, .inl r355.2.2.2.2))]) (va_runV (As := [.int r363.1]) (rest := []) ⟨hx, hb, hml, hown, hts⟩ (k_X1_readDrops l D cI cZ cC cS H.size a0 a2 (.ref a1) (.int g0_1) (.int r363.2) (.int r355.1) (.int r355.2.1) (.int r359.2.2) r355.2.2.2.1 (.ref a3) r363.1 r364 hcr364) (cwV 1 hts gX1_readWork_X1_readDrops rfl rfl rfl nd_X1_readDrops ⟨Nat.le_of_ble_eq_true rfl, Nat.le_of_ble_eq_true rfl⟩) (PB.preV (ci := 1) (q0 := 0) hKU hP hD [0, 2] rfl rfl rfl rfl) rfl rfl hl.1 rfl (lv_room (Nat.le_of_ble_eq_true rfl)) dX1_readWork_170 ⟨Nat.zero_le _, Nat.zero_le _⟩) hS hP hD hA [0, 2] rfl rfl (by first | (simp only [wset, List.set_cons_zero, List.set_cons_succ]; done) | rfl) rfl (fun H locs hP hD hS hzr364 => ?_)
          refine lv_if_eq (tgt := 180) hx hb dX1_readWork_173 (by decide) (fun c365 => ?_) (fun c365 => ?_)
          · have hsp := itT hsp c365
            refine lv_iconst (v := 0) hx hb dX1_readWork_180 (by decide) ?_
            have hres := Option.some.inj hsp
            subst hres
            exact W.zret (v := 0) hx hb hr (zE (Or.inl rfl)) (fun t ht hW => ⟨⟨0, (), rfl, ⟨rfl, (Or.inl rfl)⟩, P_at ht hP⟩, hS.F ht⟩) hS.2.2 dX1_readWork_181
          have hsp := itF hsp c365
          refine lv_iconst (v := 1) hx hb dX1_readWork_176 (by decide) ?_
          refine lv_goto (tgt := 181) hx hb dX1_readWork_177 (by decide) ?_
          have hres := Option.some.inj hsp
          subst hres
          exact W.zret (v := 1) hx hb hr (zE (Or.inr rfl)) (fun t ht hW => ⟨⟨1, (), rfl, ⟨rfl, (Or.inr rfl)⟩, P_at ht hP⟩, hS.F ht⟩) hS.2.2 dX1_readWork_181
        have hsp := itF hsp c358
        by_cases c366 : r2 = 100
        · have hsp := itT hsp c366
          refine lv_lookup (off := 82) (tgt := 182) hx hb dX1_readWork_100 (by decide) (by rw [c366]; decide) (by decide) ?_
          refine lv_aload_n hx hb dX1_readWork_182 rfl (lv_at hl 4 rfl) ?_
          refine lv_bipush (v := 8) hx hb dX1_readWork_183 (by decide) ?_
          obtain ⟨r367, hcr367, hsp⟩ := clE hsp
          refine call_z (w1 := [(a0, .inr (1, [.ref a1, .int g0_1, .int r367.2.1, .ref a2])), (a1, .inl (cI, 60, .inl f1)), (a2, .inr (3, [.int r355.1, .int r367.2.2, .int r355.2.2.1, .int r355.2.2.2.1, .ref a3]))]) (ws' := [(a0, .inr (1, [.ref a1, .int g0_1, .int r367.2.1, .ref a2])), (a1, .inl (cI, 60, .inl f1)), (a2, .inr (3, [.int r355.1, .int r367.2.2, .int r355.2.2.1, .int r355.2.2.2.1, .ref a3])), (a3, .inl (cI, 4, .inl r355.2.2.2.2))]) (va_runV (As := [.int 8]) (rest := []) ⟨hx, hb, hml, hown, hts⟩ (k_X1_readTarget l D cI cZ cC cS H.size a0 a1 a2 g0_1 x354 f1 (.int r355.1) r355.2.1 (.int r355.2.2.1) (.int r355.2.2.2.1) (.ref a3) 8 r367 hcr367) (cwV 1 hts gX1_readWork_X1_readTarget rfl rfl rfl nd_X1_readTarget ⟨Nat.le_of_ble_eq_true rfl, Nat.le_of_ble_eq_true rfl⟩) (PB.preV (ci := 1) (q0 := 0) hKU hP hD [0, 1, 2] rfl rfl rfl rfl) rfl rfl hl.1 rfl (lv_room (Nat.le_of_ble_eq_true rfl)) dX1_readWork_185 ⟨Nat.zero_le _, Nat.zero_le _⟩) hS hP hD hA [0, 1, 2] rfl rfl (by first | (simp only [wset, List.set_cons_zero, List.set_cons_succ]; done) | rfl) rfl (fun H locs hP hD hS hzr367 => ?_)
          refine lv_if_eq (tgt := 218) hx hb dX1_readWork_188 (by decide) (fun c368 => ?_) (fun c368 => ?_)
          · have hsp := itT hsp c368
            refine lv_iconst (v := 0) hx hb dX1_readWork_218 (by decide) ?_
            have hres := Option.some.inj hsp
            subst hres
            exact W.zret (v := 0) hx hb hr (zE (Or.inl rfl)) (fun t ht hW => ⟨⟨0, (), rfl, ⟨rfl, (Or.inl rfl)⟩, P_at ht hP⟩, hS.F ht⟩) hS.2.2 dX1_readWork_219
          have hsp := itF hsp c368
          refine lv_aload_n hx hb dX1_readWork_191 rfl (lv_at hl 4 rfl) ?_
          refine lv_bipush (v := 58) hx hb dX1_readWork_192 (by decide) ?_
          obtain ⟨r369, hcr369, hsp⟩ := clE hsp
          refine call_z (w1 := [(a0, .inr (1, [.ref a1, .int g0_1, .int r369.2, .ref a2])), (a1, .inl (cI, 60, .inl f1))]) (ws' := [(a0, .inr (1, [.ref a1, .int g0_1, .int r369.2, .ref a2])), (a1, .inl (cI, 60, .inl f1)), (a2, .inr (3, [.int r355.1, .int r367.2.2, .int r355.2.2.1, .int r355.2.2.2.1, .ref a3])), (a3, .inl (cI, 4, .inl r355.2.2.2.2))]) (va_runV (As := [.int 58]) (rest := []) ⟨hx, hb, hml, hown, hts⟩ (k_X1_readSign l D cI cZ cC cS H.size a0 a1 g0_1 r367.2.1 (.ref a2) f1 58 r369 hcr369) (cwV 1 hts gX1_readWork_X1_readSign rfl rfl rfl nd_X1_readSign ⟨Nat.le_of_ble_eq_true rfl, Nat.le_of_ble_eq_true rfl⟩) (PB.preV (ci := 1) (q0 := 0) hKU hP hD [0, 1] rfl rfl rfl rfl) rfl rfl hl.1 rfl (lv_room (Nat.le_of_ble_eq_true rfl)) dX1_readWork_194 ⟨Nat.zero_le _, Nat.zero_le _⟩) hS hP hD hA [0, 1] rfl rfl (by first | (simp only [wset, List.set_cons_zero, List.set_cons_succ]; done) | rfl) rfl (fun H locs hP hD hS hzr369 => ?_)
          refine lv_if_eq (tgt := 218) hx hb dX1_readWork_197 (by decide) (fun c370 => ?_) (fun c370 => ?_)
          · have hsp := itT hsp c370
            refine lv_iconst (v := 0) hx hb dX1_readWork_218 (by decide) ?_
            have hres := Option.some.inj hsp
            subst hres
            exact W.zret (v := 0) hx hb hr (zE (Or.inl rfl)) (fun t ht hW => ⟨⟨0, (), rfl, ⟨rfl, (Or.inl rfl)⟩, P_at ht hP⟩, hS.F ht⟩) hS.2.2 dX1_readWork_219
          have hsp := itF hsp c370
          refine lv_aload_n hx hb dX1_readWork_200 rfl (lv_at hl 4 rfl) ?_
          refine lv_aload_n hx hb dX1_readWork_201 rfl (lv_at hl 4 rfl) ?_
          refine lv_iconst (v := 1) hx hb dX1_readWork_202 (by decide) ?_
          refine lv_bipush (v := 9) hx hb dX1_readWork_203 (by decide) ?_
          obtain ⟨r371, hcr371, hsp⟩ := clE hsp
          refine call_i (w1 := [(a0, .inr (1, [.ref a1, .int g0_1, .int r371.2, .ref a2])), (a1, .inl (cI, 60, .inl f1))]) (ws' := [(a0, .inr (1, [.ref a1, .int g0_1, .int r371.2, .ref a2])), (a1, .inl (cI, 60, .inl f1)), (a2, .inr (3, [.int r355.1, .int r367.2.2, .int r355.2.2.1, .int r355.2.2.2.1, .ref a3])), (a3, .inl (cI, 4, .inl r355.2.2.2.2))]) (va_runV (As := [.int 1, .int 9]) (rest := [.ref a0]) ⟨hx, hb, hml, hown, hts⟩ (k_X1_readDigit l D cI cZ cC cS H.size a0 a1 g0_1 r369.2 (.ref a2) f1 1 9 r371 hcr371) (cwV 2 hts gX1_readWork_X1_readDigit rfl rfl rfl nd_X1_readDigit ⟨Nat.le_of_ble_eq_true rfl, Nat.le_of_ble_eq_true rfl⟩) (PB.preV (ci := 1) (q0 := 0) hKU hP hD [0, 1] rfl rfl rfl rfl) rfl rfl hl.1 rfl (lv_room (Nat.le_of_ble_eq_true rfl)) dX1_readWork_205 ⟨Nat.zero_le _, Nat.zero_le _⟩) hS hP hD hA [0, 1] rfl rfl (by first | (simp only [wset, List.set_cons_zero, List.set_cons_succ]; done) | rfl) rfl (fun H locs hP hD hS => ?_)
          obtain ⟨r372, hcr372, hsp⟩ := clE hsp
          refine call_z (w1 := [(a0, .inr (1, [.ref a1, .int g0_1, .int r371.2, .ref a2])), (a2, .inr (3, [.int r355.1, .int r367.2.2, .int r355.2.2.1, .int r372.2, .ref a3]))]) (ws' := [(a0, .inr (1, [.ref a1, .int g0_1, .int r371.2, .ref a2])), (a1, .inl (cI, 60, .inl f1)), (a2, .inr (3, [.int r355.1, .int r367.2.2, .int r355.2.2.1, .int r372.2, .ref a3])), (a3, .inl (cI, 4, .inl r355.2.2.2.2))]) (va_runV (As := [.int r371.1]) (rest := []) ⟨hx, hb, hml, hown, hts⟩ (k_X1_readDrops l D cI cZ cC cS H.size a0 a2 (.ref a1) (.int g0_1) (.int r371.2) (.int r355.1) (.int r367.2.2) (.int r355.2.2.1) r355.2.2.2.1 (.ref a3) r371.1 r372 hcr372) (cwV 1 hts gX1_readWork_X1_readDrops rfl rfl rfl nd_X1_readDrops ⟨Nat.le_of_ble_eq_true rfl, Nat.le_of_ble_eq_true rfl⟩) (PB.preV (ci := 1) (q0 := 0) hKU hP hD [0, 2] rfl rfl rfl rfl) rfl rfl hl.1 rfl (lv_room (Nat.le_of_ble_eq_true rfl)) dX1_readWork_208 ⟨Nat.zero_le _, Nat.zero_le _⟩) hS hP hD hA [0, 2] rfl rfl (by first | (simp only [wset, List.set_cons_zero, List.set_cons_succ]; done) | rfl) rfl (fun H locs hP hD hS hzr372 => ?_)
          refine lv_if_eq (tgt := 218) hx hb dX1_readWork_211 (by decide) (fun c373 => ?_) (fun c373 => ?_)
          · have hsp := itT hsp c373
            refine lv_iconst (v := 0) hx hb dX1_readWork_218 (by decide) ?_
            have hres := Option.some.inj hsp
            subst hres
            exact W.zret (v := 0) hx hb hr (zE (Or.inl rfl)) (fun t ht hW => ⟨⟨0, (), rfl, ⟨rfl, (Or.inl rfl)⟩, P_at ht hP⟩, hS.F ht⟩) hS.2.2 dX1_readWork_219
          have hsp := itF hsp c373
          refine lv_iconst (v := 1) hx hb dX1_readWork_214 (by decide) ?_
          refine lv_goto (tgt := 219) hx hb dX1_readWork_215 (by decide) ?_
          have hres := Option.some.inj hsp
          subst hres
          exact W.zret (v := 1) hx hb hr (zE (Or.inr rfl)) (fun t ht hW => ⟨⟨1, (), rfl, ⟨rfl, (Or.inr rfl)⟩, P_at ht hP⟩, hS.F ht⟩) hS.2.2 dX1_readWork_219
        have hsp := itF hsp c366
        by_cases c374 : r2 = 112
        · have hsp := itT hsp c374
          refine lv_lookup (off := 120) (tgt := 220) hx hb dX1_readWork_100 (by decide) (by rw [c374]; decide) (by decide) ?_
          refine lv_aload_n hx hb dX1_readWork_220 rfl (lv_at hl 4 rfl) ?_
          refine lv_bipush (v := 6) hx hb dX1_readWork_221 (by decide) ?_
          obtain ⟨r375, hcr375, hsp⟩ := clE hsp
          refine call_z (w1 := [(a0, .inr (1, [.ref a1, .int g0_1, .int r375.2.1, .ref a2])), (a1, .inl (cI, 60, .inl f1)), (a2, .inr (3, [.int r355.1, .int r375.2.2, .int r355.2.2.1, .int r355.2.2.2.1, .ref a3]))]) (ws' := [(a0, .inr (1, [.ref a1, .int g0_1, .int r375.2.1, .ref a2])), (a1, .inl (cI, 60, .inl f1)), (a2, .inr (3, [.int r355.1, .int r375.2.2, .int r355.2.2.1, .int r355.2.2.2.1, .ref a3])), (a3, .inl (cI, 4, .inl r355.2.2.2.2))]) (va_runV (As := [.int 6]) (rest := []) ⟨hx, hb, hml, hown, hts⟩ (k_X1_readTarget l D cI cZ cC cS H.size a0 a1 a2 g0_1 x354 f1 (.int r355.1) r355.2.1 (.int r355.2.2.1) (.int r355.2.2.2.1) (.ref a3) 6 r375 hcr375) (cwV 1 hts gX1_readWork_X1_readTarget rfl rfl rfl nd_X1_readTarget ⟨Nat.le_of_ble_eq_true rfl, Nat.le_of_ble_eq_true rfl⟩) (PB.preV (ci := 1) (q0 := 0) hKU hP hD [0, 1, 2] rfl rfl rfl rfl) rfl rfl hl.1 rfl (lv_room (Nat.le_of_ble_eq_true rfl)) dX1_readWork_223 ⟨Nat.zero_le _, Nat.zero_le _⟩) hS hP hD hA [0, 1, 2] rfl rfl (by first | (simp only [wset, List.set_cons_zero, List.set_cons_succ]; done) | rfl) rfl (fun H locs hP hD hS hzr375 => ?_)
          have hres := Option.some.inj hsp
          subst hres
          exact W.zret (v := r375.1) hx hb hr (zE hzr375) (fun t ht hW => ⟨⟨r375.1, (), rfl, ⟨rfl, hzr375⟩, P_at ht hP⟩, hS.F ht⟩) hS.2.2 dX1_readWork_226
        have hsp := itF hsp c374
        refine lv_lookup (off := 127) (tgt := 227) hx hb dX1_readWork_100 (by decide) ((lv_osw c356 (by decide)).trans ((lv_osw c358 (by decide)).trans ((lv_osw c366 (by decide)).trans ((lv_osw c374 (by decide)).trans rfl)))) (by decide) ?_
        refine lv_iconst (v := 1) hx hb dX1_readWork_227 (by decide) ?_
        have hres := Option.some.inj hsp
        subst hres
        exact W.zret (v := 1) hx hb hr (zE (Or.inr rfl)) (fun t ht hW => ⟨⟨1, (), rfl, ⟨rfl, (Or.inr rfl)⟩, P_at ht hP⟩, hS.F ht⟩) hS.2.2 dX1_readWork_228
      have hsp := itF hsp c353
      refine lv_iload_n hx hb dX1_readWork_66 rfl (lv_at hl 1 rfl) ?_
      refine lv_if_ne (tgt := 80) hx hb dX1_readWork_67 (by decide) (fun hc => absurd hc (by decide)) (fun _ => ?_)
      refine lv_goto (tgt := 78) hx hb dX1_readWork_70 (by decide) ?_
      refine lv_iconst (v := 0) hx hb dX1_readWork_78 (by decide) ?_
      have hres := Option.some.inj hsp
      subst hres
      exact W.zret (v := 0) hx hb hr (zE (Or.inl rfl)) (fun t ht hW => ⟨⟨0, (), rfl, ⟨rfl, (Or.inl rfl)⟩, P_at ht hP⟩, hS.F ht⟩) hS.2.2 dX1_readWork_79
    have hsp := itF hsp c352
    refine lv_iload_n hx hb dX1_readWork_49 rfl (lv_at hl 1 rfl) ?_
    refine lv_bipush (v := 114) hx hb dX1_readWork_50 (by decide) ?_
    refine lv_icmp_ne (tgt := 59) hx hb dX1_readWork_52 (by decide) (fun c376 => ?_) (fun c376 => ?_)
    · have hsp := itF hsp c376
      refine lv_iconst (v := 0) hx hb dX1_readWork_59 (by decide) ?_
      refine lv_istore (lv' := [(4, .int 0), (3, .int 0), (2, .int r2), (1, .int r1.1), (0, .ref a0)]) hx hb dX1_readWork_60 hl (by decide) rfl (fun ls hl => ?_)
      refine lv_iload_n hx hb dX1_readWork_62 rfl (lv_at hl 3 rfl) ?_
      refine lv_if_lt (tgt := 73) hx hb dX1_readWork_63 (by decide) (fun c377 => ?_) (fun c377 => ?_)
      · have hsp := itT hsp c377
        refine lv_iload hx hb dX1_readWork_73 (lv_at hl 0 rfl) ?_
        refine lv_if_ne (tgt := 80) hx hb dX1_readWork_75 (by decide) (fun hc => absurd hc (by decide)) (fun _ => ?_)
        refine lv_iconst (v := 0) hx hb dX1_readWork_78 (by decide) ?_
        have hres := Option.some.inj hsp
        subst hres
        exact W.zret (v := 0) hx hb hr (zE (Or.inl rfl)) (fun t ht hW => ⟨⟨0, (), rfl, ⟨rfl, (Or.inl rfl)⟩, P_at ht hP⟩, hS.F ht⟩) hS.2.2 dX1_readWork_79
      have hsp := itF hsp c377
      refine lv_iload_n hx hb dX1_readWork_66 rfl (lv_at hl 1 rfl) ?_
      refine lv_if_ne (tgt := 80) hx hb dX1_readWork_67 (by decide) (fun hc => absurd hc (by decide)) (fun _ => ?_)
      refine lv_goto (tgt := 78) hx hb dX1_readWork_70 (by decide) ?_
      refine lv_iconst (v := 0) hx hb dX1_readWork_78 (by decide) ?_
      have hres := Option.some.inj hsp
      subst hres
      exact W.zret (v := 0) hx hb hr (zE (Or.inl rfl)) (fun t ht hW => ⟨⟨0, (), rfl, ⟨rfl, (Or.inl rfl)⟩, P_at ht hP⟩, hS.F ht⟩) hS.2.2 dX1_readWork_79
    have hsp := itT hsp c376
    refine lv_iconst (v := 1) hx hb dX1_readWork_55 (by decide) ?_
    refine lv_goto (tgt := 60) hx hb dX1_readWork_56 (by decide) ?_
    refine lv_istore (lv' := [(4, .int 1), (3, .int 0), (2, .int r2), (1, .int r1.1), (0, .ref a0)]) hx hb dX1_readWork_60 hl (by decide) rfl (fun ls hl => ?_)
    refine lv_iload_n hx hb dX1_readWork_62 rfl (lv_at hl 3 rfl) ?_
    refine lv_if_lt (tgt := 73) hx hb dX1_readWork_63 (by decide) (fun c378 => ?_) (fun c378 => ?_)
    · have hsp := itT hsp c378
      refine lv_iload hx hb dX1_readWork_73 (lv_at hl 0 rfl) ?_
      refine lv_if_ne (tgt := 80) hx hb dX1_readWork_75 (by decide) (fun _ => ?_) (fun hc => absurd hc (by decide))
      refine lv_aload_n hx hb dX1_readWork_80 rfl (lv_at hl 4 rfl) ?_
      refine lv_dup hx hb dX1_readWork_81 rfl ?_
      refine va_get (D := D) (ci := 1) (v := .int r1.2) (C := RX1) (T := TX1) (N := 4) hx hb hts hi_X1 hown hK hP 0 rfl rfl 2 (by decide) hf_19 (fun _ h9 => h9) rfl dX1_readWork_82 ?_
      refine lv_iconst (v := 1) hx hb dX1_readWork_85 (by decide) ?_
      refine lv_iadd hx hb dX1_readWork_86 ?_
      obtain ⟨x379, ex379, hsp⟩ := nmE hsp
      refine r_top ex379 ?_
      refine va_put (D := D) (ci := 1) (v := .int x379) (ty := .int) (C := RX1) (T := TX1) (N := 4) hx hb hts hi_X1 tyX1 tyX1_ok nmX1 hown hK hP hD hS 0 rfl rfl 2 (by decide) hf_19 (fun _ h9 => h9) rfl (by decide +kernel) rfl rfl (Nat.le_of_ble_eq_true rfl) dX1_readWork_87 (fun H locs hP hD hS => ?_)
      have hP : va_P D vwCl [(a0, .inr (1, [.ref a1, .int g0_1, .int x379, .ref a2])), (a1, .inl (cI, 60, .inl f1)), (a2, .inr (3, [.int g2_0, .int g2_1, .int g2_2, .int g2_3, .ref a3])), (a3, .inl (cI, 4, .inl f3))] H := hP
      have hD : va_D A [(a0, .inr (1, [.ref a1, .int g0_1, .int x379, .ref a2])), (a1, .inl (cI, 60, .inl f1)), (a2, .inr (3, [.int g2_0, .int g2_1, .int g2_2, .int g2_3, .ref a3])), (a3, .inl (cI, 4, .inl f3))] := hD
      refine lv_aload_n hx hb dX1_readWork_90 rfl (lv_at hl 4 rfl) ?_
      refine va_get (D := D) (ci := 1) (v := .ref a2) (C := RX1) (T := TX1) (N := 4) hx hb hts hi_X1 hown hK hP 0 rfl rfl 3 (by decide) hf_25 (fun _ h9 => h9) rfl dX1_readWork_91 ?_
      refine lv_iload_n hx hb dX1_readWork_94 rfl (lv_at hl 2 rfl) ?_
      refine lv_iload_n hx hb dX1_readWork_95 rfl (lv_at hl 3 rfl) ?_
      obtain ⟨r380, hcr380, hsp⟩ := clE hsp
      refine call_v (w1 := [(a2, .inr (3, [.int r380.1, .int r380.2.1, .int r380.2.2.1, .int r380.2.2.2.1, .ref a3])), (a3, .inl (cI, 4, .inl r380.2.2.2.2))]) (ws' := [(a0, .inr (1, [.ref a1, .int g0_1, .int x379, .ref a2])), (a1, .inl (cI, 60, .inl f1)), (a2, .inr (3, [.int r380.1, .int r380.2.1, .int r380.2.2.1, .int r380.2.2.2.1, .ref a3])), (a3, .inl (cI, 4, .inl r380.2.2.2.2))]) (va_runV (As := [.int r2, .int r1.1]) (rest := []) ⟨hx, hb, hml, hown, hts⟩ (k_X3_begin l D cI cZ cC cS H.size a2 a3 g2_0 g2_1 g2_2 g2_3 f3 r2 r1.1 r380 hcr380) (cwV 2 hts gX1_readWork_X3_begin rfl rfl rfl nd_X3_begin ⟨Nat.le_of_ble_eq_true rfl, Nat.le_of_ble_eq_true rfl⟩) (PB.preV (ci := 3) (q0 := 2) hKU hP hD [2, 3] rfl rfl rfl rfl) rfl rfl hl.1 rfl (lv_room (Nat.le_of_ble_eq_true rfl)) dX1_readWork_96 ⟨Nat.zero_le _, Nat.zero_le _⟩) hS hP hD hA [2, 3] rfl rfl (by first | (simp only [wset, List.set_cons_zero, List.set_cons_succ]; done) | rfl) rfl (fun H locs hP hD hS => ?_)
      refine lv_iload_n hx hb dX1_readWork_99 rfl (lv_at hl 2 rfl) ?_
      by_cases c381 : r2 = 43
      · have hsp := itT hsp c381
        refine lv_lookup (off := 44) (tgt := 144) hx hb dX1_readWork_100 (by decide) (by rw [c381]; decide) (by decide) ?_
        refine lv_aload_n hx hb dX1_readWork_144 rfl (lv_at hl 4 rfl) ?_
        obtain ⟨r382, hcr382, hsp⟩ := clE hsp
        refine call_z (w1 := [(a0, .inr (1, [.ref a1, .int g0_1, .int r382.2.1, .ref a2])), (a1, .inl (cI, 60, .inl f1)), (a2, .inr (3, [.int r380.1, .int r380.2.1, .int r380.2.2.1, .int r380.2.2.2.1, .ref a3])), (a3, .inl (cI, 4, .inl r382.2.2))]) (ws' := [(a0, .inr (1, [.ref a1, .int g0_1, .int r382.2.1, .ref a2])), (a1, .inl (cI, 60, .inl f1)), (a2, .inr (3, [.int r380.1, .int r380.2.1, .int r380.2.2.1, .int r380.2.2.2.1, .ref a3])), (a3, .inl (cI, 4, .inl r382.2.2))]) (va_runV (As := []) (rest := []) ⟨hx, hb, hml, hown, hts⟩ (k_X1_readKinds l D cI cZ cC cS H.size a0 a1 a2 a3 g0_1 x379 f1 (.int r380.1) (.int r380.2.1) (.int r380.2.2.1) (.int r380.2.2.2.1) r380.2.2.2.2 r382 hcr382) (cwV 0 hts gX1_readWork_X1_readKinds rfl rfl rfl nd_X1_readKinds ⟨Nat.le_of_ble_eq_true rfl, Nat.le_of_ble_eq_true rfl⟩) (PB.preV (ci := 1) (q0 := 0) hKU hP hD [0, 1, 2, 3] rfl rfl rfl rfl) rfl rfl hl.1 rfl (lv_room (Nat.le_of_ble_eq_true rfl)) dX1_readWork_145 ⟨Nat.zero_le _, Nat.zero_le _⟩) hS hP hD hA [0, 1, 2, 3] rfl rfl (by first | (simp only [wset, List.set_cons_zero, List.set_cons_succ]; done) | rfl) rfl (fun H locs hP hD hS hzr382 => ?_)
        have hres := Option.some.inj hsp
        subst hres
        exact W.zret (v := r382.1) hx hb hr (zE hzr382) (fun t ht hW => ⟨⟨r382.1, (), rfl, ⟨rfl, hzr382⟩, P_at ht hP⟩, hS.F ht⟩) hS.2.2 dX1_readWork_148
      have hsp := itF hsp c381
      by_cases c383 : r2 = 62
      · have hsp := itT hsp c383
        refine lv_lookup (off := 49) (tgt := 149) hx hb dX1_readWork_100 (by decide) (by rw [c383]; decide) (by decide) ?_
        refine lv_aload_n hx hb dX1_readWork_149 rfl (lv_at hl 4 rfl) ?_
        obtain ⟨r384, hcr384, hsp⟩ := clE hsp
        refine call_z (w1 := [(a0, .inr (1, [.ref a1, .int g0_1, .int r384.2.1, .ref a2])), (a1, .inl (cI, 60, .inl f1)), (a2, .inr (3, [.int r380.1, .int r380.2.1, .int r384.2.2, .int r380.2.2.2.1, .ref a3]))]) (ws' := [(a0, .inr (1, [.ref a1, .int g0_1, .int r384.2.1, .ref a2])), (a1, .inl (cI, 60, .inl f1)), (a2, .inr (3, [.int r380.1, .int r380.2.1, .int r384.2.2, .int r380.2.2.2.1, .ref a3])), (a3, .inl (cI, 4, .inl r380.2.2.2.2))]) (va_runV (As := []) (rest := []) ⟨hx, hb, hml, hown, hts⟩ (k_X1_readOther l D cI cZ cC cS H.size a0 a1 a2 g0_1 x379 f1 (.int r380.1) (.int r380.2.1) r380.2.2.1 (.int r380.2.2.2.1) (.ref a3) r384 hcr384) (cwV 0 hts gX1_readWork_X1_readOther rfl rfl rfl nd_X1_readOther ⟨Nat.le_of_ble_eq_true rfl, Nat.le_of_ble_eq_true rfl⟩) (PB.preV (ci := 1) (q0 := 0) hKU hP hD [0, 1, 2] rfl rfl rfl rfl) rfl rfl hl.1 rfl (lv_room (Nat.le_of_ble_eq_true rfl)) dX1_readWork_150 ⟨Nat.zero_le _, Nat.zero_le _⟩) hS hP hD hA [0, 1, 2] rfl rfl (by first | (simp only [wset, List.set_cons_zero, List.set_cons_succ]; done) | rfl) rfl (fun H locs hP hD hS hzr384 => ?_)
        refine lv_if_eq (tgt := 180) hx hb dX1_readWork_153 (by decide) (fun c385 => ?_) (fun c385 => ?_)
        · have hsp := itT hsp c385
          refine lv_iconst (v := 0) hx hb dX1_readWork_180 (by decide) ?_
          have hres := Option.some.inj hsp
          subst hres
          exact W.zret (v := 0) hx hb hr (zE (Or.inl rfl)) (fun t ht hW => ⟨⟨0, (), rfl, ⟨rfl, (Or.inl rfl)⟩, P_at ht hP⟩, hS.F ht⟩) hS.2.2 dX1_readWork_181
        have hsp := itF hsp c385
        refine lv_aload_n hx hb dX1_readWork_156 rfl (lv_at hl 4 rfl) ?_
        refine lv_bipush (v := 58) hx hb dX1_readWork_157 (by decide) ?_
        obtain ⟨r386, hcr386, hsp⟩ := clE hsp
        refine call_z (w1 := [(a0, .inr (1, [.ref a1, .int g0_1, .int r386.2, .ref a2])), (a1, .inl (cI, 60, .inl f1))]) (ws' := [(a0, .inr (1, [.ref a1, .int g0_1, .int r386.2, .ref a2])), (a1, .inl (cI, 60, .inl f1)), (a2, .inr (3, [.int r380.1, .int r380.2.1, .int r384.2.2, .int r380.2.2.2.1, .ref a3])), (a3, .inl (cI, 4, .inl r380.2.2.2.2))]) (va_runV (As := [.int 58]) (rest := []) ⟨hx, hb, hml, hown, hts⟩ (k_X1_readSign l D cI cZ cC cS H.size a0 a1 g0_1 r384.2.1 (.ref a2) f1 58 r386 hcr386) (cwV 1 hts gX1_readWork_X1_readSign rfl rfl rfl nd_X1_readSign ⟨Nat.le_of_ble_eq_true rfl, Nat.le_of_ble_eq_true rfl⟩) (PB.preV (ci := 1) (q0 := 0) hKU hP hD [0, 1] rfl rfl rfl rfl) rfl rfl hl.1 rfl (lv_room (Nat.le_of_ble_eq_true rfl)) dX1_readWork_159 ⟨Nat.zero_le _, Nat.zero_le _⟩) hS hP hD hA [0, 1] rfl rfl (by first | (simp only [wset, List.set_cons_zero, List.set_cons_succ]; done) | rfl) rfl (fun H locs hP hD hS hzr386 => ?_)
        refine lv_if_eq (tgt := 180) hx hb dX1_readWork_162 (by decide) (fun c387 => ?_) (fun c387 => ?_)
        · have hsp := itT hsp c387
          refine lv_iconst (v := 0) hx hb dX1_readWork_180 (by decide) ?_
          have hres := Option.some.inj hsp
          subst hres
          exact W.zret (v := 0) hx hb hr (zE (Or.inl rfl)) (fun t ht hW => ⟨⟨0, (), rfl, ⟨rfl, (Or.inl rfl)⟩, P_at ht hP⟩, hS.F ht⟩) hS.2.2 dX1_readWork_181
        have hsp := itF hsp c387
        refine lv_aload_n hx hb dX1_readWork_165 rfl (lv_at hl 4 rfl) ?_
        refine lv_aload_n hx hb dX1_readWork_166 rfl (lv_at hl 4 rfl) ?_
        obtain ⟨r388, hcr388, hsp⟩ := clE hsp
        refine call_i (w1 := [(a0, .inr (1, [.ref a1, .int g0_1, .int r388.2, .ref a2])), (a1, .inl (cI, 60, .inl f1))]) (ws' := [(a0, .inr (1, [.ref a1, .int g0_1, .int r388.2, .ref a2])), (a1, .inl (cI, 60, .inl f1)), (a2, .inr (3, [.int r380.1, .int r380.2.1, .int r384.2.2, .int r380.2.2.2.1, .ref a3])), (a3, .inl (cI, 4, .inl r380.2.2.2.2))]) (va_runV (As := []) (rest := [.ref a0]) ⟨hx, hb, hml, hown, hts⟩ (k_X1_readNumber l D cI cZ cC cS H.size a0 a1 g0_1 r386.2 (.ref a2) f1 r388 hcr388) (cwV 0 hts gX1_readWork_X1_readNumber rfl rfl rfl nd_X1_readNumber ⟨Nat.le_of_ble_eq_true rfl, Nat.le_of_ble_eq_true rfl⟩) (PB.preV (ci := 1) (q0 := 0) hKU hP hD [0, 1] rfl rfl rfl rfl) rfl rfl hl.1 rfl (lv_room (Nat.le_of_ble_eq_true rfl)) dX1_readWork_167 ⟨Nat.zero_le _, Nat.zero_le _⟩) hS hP hD hA [0, 1] rfl rfl (by first | (simp only [wset, List.set_cons_zero, List.set_cons_succ]; done) | rfl) rfl (fun H locs hP hD hS => ?_)
        obtain ⟨r389, hcr389, hsp⟩ := clE hsp
        refine call_z (w1 := [(a0, .inr (1, [.ref a1, .int g0_1, .int r388.2, .ref a2])), (a2, .inr (3, [.int r380.1, .int r380.2.1, .int r384.2.2, .int r389.2, .ref a3]))]) (ws' := [(a0, .inr (1, [.ref a1, .int g0_1, .int r388.2, .ref a2])), (a1, .inl (cI, 60, .inl f1)), (a2, .inr (3, [.int r380.1, .int r380.2.1, .int r384.2.2, .int r389.2, .ref a3])), (a3, .inl (cI, 4, .inl r380.2.2.2.2))]) (va_runV (As := [.int r388.1]) (rest := []) ⟨hx, hb, hml, hown, hts⟩ (k_X1_readDrops l D cI cZ cC cS H.size a0 a2 (.ref a1) (.int g0_1) (.int r388.2) (.int r380.1) (.int r380.2.1) (.int r384.2.2) r380.2.2.2.1 (.ref a3) r388.1 r389 hcr389) (cwV 1 hts gX1_readWork_X1_readDrops rfl rfl rfl nd_X1_readDrops ⟨Nat.le_of_ble_eq_true rfl, Nat.le_of_ble_eq_true rfl⟩) (PB.preV (ci := 1) (q0 := 0) hKU hP hD [0, 2] rfl rfl rfl rfl) rfl rfl hl.1 rfl (lv_room (Nat.le_of_ble_eq_true rfl)) dX1_readWork_170 ⟨Nat.zero_le _, Nat.zero_le _⟩) hS hP hD hA [0, 2] rfl rfl (by first | (simp only [wset, List.set_cons_zero, List.set_cons_succ]; done) | rfl) rfl (fun H locs hP hD hS hzr389 => ?_)
        refine lv_if_eq (tgt := 180) hx hb dX1_readWork_173 (by decide) (fun c390 => ?_) (fun c390 => ?_)
        · have hsp := itT hsp c390
          refine lv_iconst (v := 0) hx hb dX1_readWork_180 (by decide) ?_
          have hres := Option.some.inj hsp
          subst hres
          exact W.zret (v := 0) hx hb hr (zE (Or.inl rfl)) (fun t ht hW => ⟨⟨0, (), rfl, ⟨rfl, (Or.inl rfl)⟩, P_at ht hP⟩, hS.F ht⟩) hS.2.2 dX1_readWork_181
        have hsp := itF hsp c390
        refine lv_iconst (v := 1) hx hb dX1_readWork_176 (by decide) ?_
        refine lv_goto (tgt := 181) hx hb dX1_readWork_177 (by decide) ?_
        have hres := Option.some.inj hsp
        subst hres
        exact W.zret (v := 1) hx hb hr (zE (Or.inr rfl)) (fun t ht hW => ⟨⟨1, (), rfl, ⟨rfl, (Or.inr rfl)⟩, P_at ht hP⟩, hS.F ht⟩) hS.2.2 dX1_readWork_181
      have hsp := itF hsp c383
      by_cases c391 : r2 = 100
      · have hsp := itT hsp c391
        refine lv_lookup (off := 82) (tgt := 182) hx hb dX1_readWork_100 (by decide) (by rw [c391]; decide) (by decide) ?_
        refine lv_aload_n hx hb dX1_readWork_182 rfl (lv_at hl 4 rfl) ?_
        refine lv_bipush (v := 8) hx hb dX1_readWork_183 (by decide) ?_
        obtain ⟨r392, hcr392, hsp⟩ := clE hsp
        refine call_z (w1 := [(a0, .inr (1, [.ref a1, .int g0_1, .int r392.2.1, .ref a2])), (a1, .inl (cI, 60, .inl f1)), (a2, .inr (3, [.int r380.1, .int r392.2.2, .int r380.2.2.1, .int r380.2.2.2.1, .ref a3]))]) (ws' := [(a0, .inr (1, [.ref a1, .int g0_1, .int r392.2.1, .ref a2])), (a1, .inl (cI, 60, .inl f1)), (a2, .inr (3, [.int r380.1, .int r392.2.2, .int r380.2.2.1, .int r380.2.2.2.1, .ref a3])), (a3, .inl (cI, 4, .inl r380.2.2.2.2))]) (va_runV (As := [.int 8]) (rest := []) ⟨hx, hb, hml, hown, hts⟩ (k_X1_readTarget l D cI cZ cC cS H.size a0 a1 a2 g0_1 x379 f1 (.int r380.1) r380.2.1 (.int r380.2.2.1) (.int r380.2.2.2.1) (.ref a3) 8 r392 hcr392) (cwV 1 hts gX1_readWork_X1_readTarget rfl rfl rfl nd_X1_readTarget ⟨Nat.le_of_ble_eq_true rfl, Nat.le_of_ble_eq_true rfl⟩) (PB.preV (ci := 1) (q0 := 0) hKU hP hD [0, 1, 2] rfl rfl rfl rfl) rfl rfl hl.1 rfl (lv_room (Nat.le_of_ble_eq_true rfl)) dX1_readWork_185 ⟨Nat.zero_le _, Nat.zero_le _⟩) hS hP hD hA [0, 1, 2] rfl rfl (by first | (simp only [wset, List.set_cons_zero, List.set_cons_succ]; done) | rfl) rfl (fun H locs hP hD hS hzr392 => ?_)
        refine lv_if_eq (tgt := 218) hx hb dX1_readWork_188 (by decide) (fun c393 => ?_) (fun c393 => ?_)
        · have hsp := itT hsp c393
          refine lv_iconst (v := 0) hx hb dX1_readWork_218 (by decide) ?_
          have hres := Option.some.inj hsp
          subst hres
          exact W.zret (v := 0) hx hb hr (zE (Or.inl rfl)) (fun t ht hW => ⟨⟨0, (), rfl, ⟨rfl, (Or.inl rfl)⟩, P_at ht hP⟩, hS.F ht⟩) hS.2.2 dX1_readWork_219
        have hsp := itF hsp c393
        refine lv_aload_n hx hb dX1_readWork_191 rfl (lv_at hl 4 rfl) ?_
        refine lv_bipush (v := 58) hx hb dX1_readWork_192 (by decide) ?_
        obtain ⟨r394, hcr394, hsp⟩ := clE hsp
        refine call_z (w1 := [(a0, .inr (1, [.ref a1, .int g0_1, .int r394.2, .ref a2])), (a1, .inl (cI, 60, .inl f1))]) (ws' := [(a0, .inr (1, [.ref a1, .int g0_1, .int r394.2, .ref a2])), (a1, .inl (cI, 60, .inl f1)), (a2, .inr (3, [.int r380.1, .int r392.2.2, .int r380.2.2.1, .int r380.2.2.2.1, .ref a3])), (a3, .inl (cI, 4, .inl r380.2.2.2.2))]) (va_runV (As := [.int 58]) (rest := []) ⟨hx, hb, hml, hown, hts⟩ (k_X1_readSign l D cI cZ cC cS H.size a0 a1 g0_1 r392.2.1 (.ref a2) f1 58 r394 hcr394) (cwV 1 hts gX1_readWork_X1_readSign rfl rfl rfl nd_X1_readSign ⟨Nat.le_of_ble_eq_true rfl, Nat.le_of_ble_eq_true rfl⟩) (PB.preV (ci := 1) (q0 := 0) hKU hP hD [0, 1] rfl rfl rfl rfl) rfl rfl hl.1 rfl (lv_room (Nat.le_of_ble_eq_true rfl)) dX1_readWork_194 ⟨Nat.zero_le _, Nat.zero_le _⟩) hS hP hD hA [0, 1] rfl rfl (by first | (simp only [wset, List.set_cons_zero, List.set_cons_succ]; done) | rfl) rfl (fun H locs hP hD hS hzr394 => ?_)
        refine lv_if_eq (tgt := 218) hx hb dX1_readWork_197 (by decide) (fun c395 => ?_) (fun c395 => ?_)
        · have hsp := itT hsp c395
          refine lv_iconst (v := 0) hx hb dX1_readWork_218 (by decide) ?_
          have hres := Option.some.inj hsp
          subst hres
          exact W.zret (v := 0) hx hb hr (zE (Or.inl rfl)) (fun t ht hW => ⟨⟨0, (), rfl, ⟨rfl, (Or.inl rfl)⟩, P_at ht hP⟩, hS.F ht⟩) hS.2.2 dX1_readWork_219
        have hsp := itF hsp c395
        refine lv_aload_n hx hb dX1_readWork_200 rfl (lv_at hl 4 rfl) ?_
        refine lv_aload_n hx hb dX1_readWork_201 rfl (lv_at hl 4 rfl) ?_
        refine lv_iconst (v := 1) hx hb dX1_readWork_202 (by decide) ?_
        refine lv_bipush (v := 9) hx hb dX1_readWork_203 (by decide) ?_
        obtain ⟨r396, hcr396, hsp⟩ := clE hsp
        refine call_i (w1 := [(a0, .inr (1, [.ref a1, .int g0_1, .int r396.2, .ref a2])), (a1, .inl (cI, 60, .inl f1))]) (ws' := [(a0, .inr (1, [.ref a1, .int g0_1, .int r396.2, .ref a2])), (a1, .inl (cI, 60, .inl f1)), (a2, .inr (3, [.int r380.1, .int r392.2.2, .int r380.2.2.1, .int r380.2.2.2.1, .ref a3])), (a3, .inl (cI, 4, .inl r380.2.2.2.2))]) (va_runV (As := [.int 1, .int 9]) (rest := [.ref a0]) ⟨hx, hb, hml, hown, hts⟩ (k_X1_readDigit l D cI cZ cC cS H.size a0 a1 g0_1 r394.2 (.ref a2) f1 1 9 r396 hcr396) (cwV 2 hts gX1_readWork_X1_readDigit rfl rfl rfl nd_X1_readDigit ⟨Nat.le_of_ble_eq_true rfl, Nat.le_of_ble_eq_true rfl⟩) (PB.preV (ci := 1) (q0 := 0) hKU hP hD [0, 1] rfl rfl rfl rfl) rfl rfl hl.1 rfl (lv_room (Nat.le_of_ble_eq_true rfl)) dX1_readWork_205 ⟨Nat.zero_le _, Nat.zero_le _⟩) hS hP hD hA [0, 1] rfl rfl (by first | (simp only [wset, List.set_cons_zero, List.set_cons_succ]; done) | rfl) rfl (fun H locs hP hD hS => ?_)
        obtain ⟨r397, hcr397, hsp⟩ := clE hsp
        refine call_z (w1 := [(a0, .inr (1, [.ref a1, .int g0_1, .int r396.2, .ref a2])), (a2, .inr (3, [.int r380.1, .int r392.2.2, .int r380.2.2.1, .int r397.2, .ref a3]))]) (ws' := [(a0, .inr (1, [.ref a1, .int g0_1, .int r396.2, .ref a2])), (a1, .inl (cI, 60, .inl f1)), (a2, .inr (3, [.int r380.1, .int r392.2.2, .int r380.2.2.1, .int r397.2, .ref a3])), (a3, .inl (cI, 4, .inl r380.2.2.2.2))]) (va_runV (As := [.int r396.1]) (rest := []) ⟨hx, hb, hml, hown, hts⟩ (k_X1_readDrops l D cI cZ cC cS H.size a0 a2 (.ref a1) (.int g0_1) (.int r396.2) (.int r380.1) (.int r392.2.2) (.int r380.2.2.1) r380.2.2.2.1 (.ref a3) r396.1 r397 hcr397) (cwV 1 hts gX1_readWork_X1_readDrops rfl rfl rfl nd_X1_readDrops ⟨Nat.le_of_ble_eq_true rfl, Nat.le_of_ble_eq_true rfl⟩) (PB.preV (ci := 1) (q0 := 0) hKU hP hD [0, 2] rfl rfl rfl rfl) rfl rfl hl.1 rfl (lv_room (Nat.le_of_ble_eq_true rfl)) dX1_readWork_208 ⟨Nat.zero_le _, Nat.zero_le _⟩) hS hP hD hA [0, 2] rfl rfl (by first | (simp only [wset, List.set_cons_zero, List.set_cons_succ]; done) | rfl) rfl (fun H locs hP hD hS hzr397 => ?_)
        refine lv_if_eq (tgt := 218) hx hb dX1_readWork_211 (by decide) (fun c398 => ?_) (fun c398 => ?_)
        · have hsp := itT hsp c398
          refine lv_iconst (v := 0) hx hb dX1_readWork_218 (by decide) ?_
          have hres := Option.some.inj hsp
          subst hres
          exact W.zret (v := 0) hx hb hr (zE (Or.inl rfl)) (fun t ht hW => ⟨⟨0, (), rfl, ⟨rfl, (Or.inl rfl)⟩, P_at ht hP⟩, hS.F ht⟩) hS.2.2 dX1_readWork_219
        have hsp := itF hsp c398
        refine lv_iconst (v := 1) hx hb dX1_readWork_214 (by decide) ?_
        refine lv_goto (tgt := 219) hx hb dX1_readWork_215 (by decide) ?_
        have hres := Option.some.inj hsp
        subst hres
        exact W.zret (v := 1) hx hb hr (zE (Or.inr rfl)) (fun t ht hW => ⟨⟨1, (), rfl, ⟨rfl, (Or.inr rfl)⟩, P_at ht hP⟩, hS.F ht⟩) hS.2.2 dX1_readWork_219
      have hsp := itF hsp c391
      by_cases c399 : r2 = 112
      · have hsp := itT hsp c399
        refine lv_lookup (off := 120) (tgt := 220) hx hb dX1_readWork_100 (by decide) (by rw [c399]; decide) (by decide) ?_
        refine lv_aload_n hx hb dX1_readWork_220 rfl (lv_at hl 4 rfl) ?_
        refine lv_bipush (v := 6) hx hb dX1_readWork_221 (by decide) ?_
        obtain ⟨r400, hcr400, hsp⟩ := clE hsp
        refine call_z (w1 := [(a0, .inr (1, [.ref a1, .int g0_1, .int r400.2.1, .ref a2])), (a1, .inl (cI, 60, .inl f1)), (a2, .inr (3, [.int r380.1, .int r400.2.2, .int r380.2.2.1, .int r380.2.2.2.1, .ref a3]))]) (ws' := [(a0, .inr (1, [.ref a1, .int g0_1, .int r400.2.1, .ref a2])), (a1, .inl (cI, 60, .inl f1)), (a2, .inr (3, [.int r380.1, .int r400.2.2, .int r380.2.2.1, .int r380.2.2.2.1, .ref a3])), (a3, .inl (cI, 4, .inl r380.2.2.2.2))]) (va_runV (As := [.int 6]) (rest := []) ⟨hx, hb, hml, hown, hts⟩ (k_X1_readTarget l D cI cZ cC cS H.size a0 a1 a2 g0_1 x379 f1 (.int r380.1) r380.2.1 (.int r380.2.2.1) (.int r380.2.2.2.1) (.ref a3) 6 r400 hcr400) (cwV 1 hts gX1_readWork_X1_readTarget rfl rfl rfl nd_X1_readTarget ⟨Nat.le_of_ble_eq_true rfl, Nat.le_of_ble_eq_true rfl⟩) (PB.preV (ci := 1) (q0 := 0) hKU hP hD [0, 1, 2] rfl rfl rfl rfl) rfl rfl hl.1 rfl (lv_room (Nat.le_of_ble_eq_true rfl)) dX1_readWork_223 ⟨Nat.zero_le _, Nat.zero_le _⟩) hS hP hD hA [0, 1, 2] rfl rfl (by first | (simp only [wset, List.set_cons_zero, List.set_cons_succ]; done) | rfl) rfl (fun H locs hP hD hS hzr400 => ?_)
        have hres := Option.some.inj hsp
        subst hres
        exact W.zret (v := r400.1) hx hb hr (zE hzr400) (fun t ht hW => ⟨⟨r400.1, (), rfl, ⟨rfl, hzr400⟩, P_at ht hP⟩, hS.F ht⟩) hS.2.2 dX1_readWork_226
      have hsp := itF hsp c399
      refine lv_lookup (off := 127) (tgt := 227) hx hb dX1_readWork_100 (by decide) ((lv_osw c381 (by decide)).trans ((lv_osw c383 (by decide)).trans ((lv_osw c391 (by decide)).trans ((lv_osw c399 (by decide)).trans rfl)))) (by decide) ?_
      refine lv_iconst (v := 1) hx hb dX1_readWork_227 (by decide) ?_
      have hres := Option.some.inj hsp
      subst hres
      exact W.zret (v := 1) hx hb hr (zE (Or.inr rfl)) (fun t ht hW => ⟨⟨1, (), rfl, ⟨rfl, (Or.inr rfl)⟩, P_at ht hP⟩, hS.F ht⟩) hS.2.2 dX1_readWork_228
    have hsp := itF hsp c378
    refine lv_iload_n hx hb dX1_readWork_66 rfl (lv_at hl 1 rfl) ?_
    refine lv_if_ne (tgt := 80) hx hb dX1_readWork_67 (by decide) (fun hc => absurd hc (by decide)) (fun _ => ?_)
    refine lv_goto (tgt := 78) hx hb dX1_readWork_70 (by decide) ?_
    refine lv_iconst (v := 0) hx hb dX1_readWork_78 (by decide) ?_
    have hres := Option.some.inj hsp
    subst hres
    exact W.zret (v := 0) hx hb hr (zE (Or.inl rfl)) (fun t ht hW => ⟨⟨0, (), rfl, ⟨rfl, (Or.inl rfl)⟩, P_at ht hP⟩, hS.F ht⟩) hS.2.2 dX1_readWork_79
  have hsp := itT hsp c327
  refine lv_iconst (v := 1) hx hb dX1_readWork_31 (by decide) ?_
  refine lv_goto (tgt := 36) hx hb dX1_readWork_32 (by decide) ?_
  refine lv_istore_n (lv' := [(3, .int 1), (2, .int r2), (1, .int r1.1), (0, .ref a0)]) hx hb dX1_readWork_36 rfl hl (by decide) rfl (fun ls hl => ?_)
  refine lv_iload_n hx hb dX1_readWork_37 rfl (lv_at hl 1 rfl) ?_
  refine lv_bipush (v := 100) hx hb dX1_readWork_38 (by decide) ?_
  refine lv_icmp_eq (tgt := 55) hx hb dX1_readWork_40 (by decide) (fun c401 => ?_) (fun c401 => ?_)
  · have hsp := itT hsp c401
    refine lv_iconst (v := 1) hx hb dX1_readWork_55 (by decide) ?_
    refine lv_goto (tgt := 60) hx hb dX1_readWork_56 (by decide) ?_
    refine lv_istore (lv' := [(4, .int 1), (3, .int 1), (2, .int r2), (1, .int r1.1), (0, .ref a0)]) hx hb dX1_readWork_60 hl (by decide) rfl (fun ls hl => ?_)
    refine lv_iload_n hx hb dX1_readWork_62 rfl (lv_at hl 3 rfl) ?_
    refine lv_if_lt (tgt := 73) hx hb dX1_readWork_63 (by decide) (fun c402 => ?_) (fun c402 => ?_)
    · have hsp := itT hsp c402
      refine lv_iload hx hb dX1_readWork_73 (lv_at hl 0 rfl) ?_
      refine lv_if_ne (tgt := 80) hx hb dX1_readWork_75 (by decide) (fun _ => ?_) (fun hc => absurd hc (by decide))
      refine lv_aload_n hx hb dX1_readWork_80 rfl (lv_at hl 4 rfl) ?_
      refine lv_dup hx hb dX1_readWork_81 rfl ?_
      refine va_get (D := D) (ci := 1) (v := .int r1.2) (C := RX1) (T := TX1) (N := 4) hx hb hts hi_X1 hown hK hP 0 rfl rfl 2 (by decide) hf_19 (fun _ h9 => h9) rfl dX1_readWork_82 ?_
      refine lv_iconst (v := 1) hx hb dX1_readWork_85 (by decide) ?_
      refine lv_iadd hx hb dX1_readWork_86 ?_
      obtain ⟨x403, ex403, hsp⟩ := nmE hsp
      refine r_top ex403 ?_
      refine va_put (D := D) (ci := 1) (v := .int x403) (ty := .int) (C := RX1) (T := TX1) (N := 4) hx hb hts hi_X1 tyX1 tyX1_ok nmX1 hown hK hP hD hS 0 rfl rfl 2 (by decide) hf_19 (fun _ h9 => h9) rfl (by decide +kernel) rfl rfl (Nat.le_of_ble_eq_true rfl) dX1_readWork_87 (fun H locs hP hD hS => ?_)
      have hP : va_P D vwCl [(a0, .inr (1, [.ref a1, .int g0_1, .int x403, .ref a2])), (a1, .inl (cI, 60, .inl f1)), (a2, .inr (3, [.int g2_0, .int g2_1, .int g2_2, .int g2_3, .ref a3])), (a3, .inl (cI, 4, .inl f3))] H := hP
      have hD : va_D A [(a0, .inr (1, [.ref a1, .int g0_1, .int x403, .ref a2])), (a1, .inl (cI, 60, .inl f1)), (a2, .inr (3, [.int g2_0, .int g2_1, .int g2_2, .int g2_3, .ref a3])), (a3, .inl (cI, 4, .inl f3))] := hD
      refine lv_aload_n hx hb dX1_readWork_90 rfl (lv_at hl 4 rfl) ?_
      refine va_get (D := D) (ci := 1) (v := .ref a2) (C := RX1) (T := TX1) (N := 4) hx hb hts hi_X1 hown hK hP 0 rfl rfl 3 (by decide) hf_25 (fun _ h9 => h9) rfl dX1_readWork_91 ?_
      refine lv_iload_n hx hb dX1_readWork_94 rfl (lv_at hl 2 rfl) ?_
      refine lv_iload_n hx hb dX1_readWork_95 rfl (lv_at hl 3 rfl) ?_
      obtain ⟨r404, hcr404, hsp⟩ := clE hsp
      refine call_v (w1 := [(a2, .inr (3, [.int r404.1, .int r404.2.1, .int r404.2.2.1, .int r404.2.2.2.1, .ref a3])), (a3, .inl (cI, 4, .inl r404.2.2.2.2))]) (ws' := [(a0, .inr (1, [.ref a1, .int g0_1, .int x403, .ref a2])), (a1, .inl (cI, 60, .inl f1)), (a2, .inr (3, [.int r404.1, .int r404.2.1, .int r404.2.2.1, .int r404.2.2.2.1, .ref a3])), (a3, .inl (cI, 4, .inl r404.2.2.2.2))]) (va_runV (As := [.int r2, .int r1.1]) (rest := []) ⟨hx, hb, hml, hown, hts⟩ (k_X3_begin l D cI cZ cC cS H.size a2 a3 g2_0 g2_1 g2_2 g2_3 f3 r2 r1.1 r404 hcr404) (cwV 2 hts gX1_readWork_X3_begin rfl rfl rfl nd_X3_begin ⟨Nat.le_of_ble_eq_true rfl, Nat.le_of_ble_eq_true rfl⟩) (PB.preV (ci := 3) (q0 := 2) hKU hP hD [2, 3] rfl rfl rfl rfl) rfl rfl hl.1 rfl (lv_room (Nat.le_of_ble_eq_true rfl)) dX1_readWork_96 ⟨Nat.zero_le _, Nat.zero_le _⟩) hS hP hD hA [2, 3] rfl rfl (by first | (simp only [wset, List.set_cons_zero, List.set_cons_succ]; done) | rfl) rfl (fun H locs hP hD hS => ?_)
      refine lv_iload_n hx hb dX1_readWork_99 rfl (lv_at hl 2 rfl) ?_
      by_cases c405 : r2 = 43
      · have hsp := itT hsp c405
        refine lv_lookup (off := 44) (tgt := 144) hx hb dX1_readWork_100 (by decide) (by rw [c405]; decide) (by decide) ?_
        refine lv_aload_n hx hb dX1_readWork_144 rfl (lv_at hl 4 rfl) ?_
        obtain ⟨r406, hcr406, hsp⟩ := clE hsp
        refine call_z (w1 := [(a0, .inr (1, [.ref a1, .int g0_1, .int r406.2.1, .ref a2])), (a1, .inl (cI, 60, .inl f1)), (a2, .inr (3, [.int r404.1, .int r404.2.1, .int r404.2.2.1, .int r404.2.2.2.1, .ref a3])), (a3, .inl (cI, 4, .inl r406.2.2))]) (ws' := [(a0, .inr (1, [.ref a1, .int g0_1, .int r406.2.1, .ref a2])), (a1, .inl (cI, 60, .inl f1)), (a2, .inr (3, [.int r404.1, .int r404.2.1, .int r404.2.2.1, .int r404.2.2.2.1, .ref a3])), (a3, .inl (cI, 4, .inl r406.2.2))]) (va_runV (As := []) (rest := []) ⟨hx, hb, hml, hown, hts⟩ (k_X1_readKinds l D cI cZ cC cS H.size a0 a1 a2 a3 g0_1 x403 f1 (.int r404.1) (.int r404.2.1) (.int r404.2.2.1) (.int r404.2.2.2.1) r404.2.2.2.2 r406 hcr406) (cwV 0 hts gX1_readWork_X1_readKinds rfl rfl rfl nd_X1_readKinds ⟨Nat.le_of_ble_eq_true rfl, Nat.le_of_ble_eq_true rfl⟩) (PB.preV (ci := 1) (q0 := 0) hKU hP hD [0, 1, 2, 3] rfl rfl rfl rfl) rfl rfl hl.1 rfl (lv_room (Nat.le_of_ble_eq_true rfl)) dX1_readWork_145 ⟨Nat.zero_le _, Nat.zero_le _⟩) hS hP hD hA [0, 1, 2, 3] rfl rfl (by first | (simp only [wset, List.set_cons_zero, List.set_cons_succ]; done) | rfl) rfl (fun H locs hP hD hS hzr406 => ?_)
        have hres := Option.some.inj hsp
        subst hres
        exact W.zret (v := r406.1) hx hb hr (zE hzr406) (fun t ht hW => ⟨⟨r406.1, (), rfl, ⟨rfl, hzr406⟩, P_at ht hP⟩, hS.F ht⟩) hS.2.2 dX1_readWork_148
      have hsp := itF hsp c405
      by_cases c407 : r2 = 62
      · have hsp := itT hsp c407
        refine lv_lookup (off := 49) (tgt := 149) hx hb dX1_readWork_100 (by decide) (by rw [c407]; decide) (by decide) ?_
        refine lv_aload_n hx hb dX1_readWork_149 rfl (lv_at hl 4 rfl) ?_
        obtain ⟨r408, hcr408, hsp⟩ := clE hsp
        refine call_z (w1 := [(a0, .inr (1, [.ref a1, .int g0_1, .int r408.2.1, .ref a2])), (a1, .inl (cI, 60, .inl f1)), (a2, .inr (3, [.int r404.1, .int r404.2.1, .int r408.2.2, .int r404.2.2.2.1, .ref a3]))]) (ws' := [(a0, .inr (1, [.ref a1, .int g0_1, .int r408.2.1, .ref a2])), (a1, .inl (cI, 60, .inl f1)), (a2, .inr (3, [.int r404.1, .int r404.2.1, .int r408.2.2, .int r404.2.2.2.1, .ref a3])), (a3, .inl (cI, 4, .inl r404.2.2.2.2))]) (va_runV (As := []) (rest := []) ⟨hx, hb, hml, hown, hts⟩ (k_X1_readOther l D cI cZ cC cS H.size a0 a1 a2 g0_1 x403 f1 (.int r404.1) (.int r404.2.1) r404.2.2.1 (.int r404.2.2.2.1) (.ref a3) r408 hcr408) (cwV 0 hts gX1_readWork_X1_readOther rfl rfl rfl nd_X1_readOther ⟨Nat.le_of_ble_eq_true rfl, Nat.le_of_ble_eq_true rfl⟩) (PB.preV (ci := 1) (q0 := 0) hKU hP hD [0, 1, 2] rfl rfl rfl rfl) rfl rfl hl.1 rfl (lv_room (Nat.le_of_ble_eq_true rfl)) dX1_readWork_150 ⟨Nat.zero_le _, Nat.zero_le _⟩) hS hP hD hA [0, 1, 2] rfl rfl (by first | (simp only [wset, List.set_cons_zero, List.set_cons_succ]; done) | rfl) rfl (fun H locs hP hD hS hzr408 => ?_)
        refine lv_if_eq (tgt := 180) hx hb dX1_readWork_153 (by decide) (fun c409 => ?_) (fun c409 => ?_)
        · have hsp := itT hsp c409
          refine lv_iconst (v := 0) hx hb dX1_readWork_180 (by decide) ?_
          have hres := Option.some.inj hsp
          subst hres
          exact W.zret (v := 0) hx hb hr (zE (Or.inl rfl)) (fun t ht hW => ⟨⟨0, (), rfl, ⟨rfl, (Or.inl rfl)⟩, P_at ht hP⟩, hS.F ht⟩) hS.2.2 dX1_readWork_181
        have hsp := itF hsp c409
        refine lv_aload_n hx hb dX1_readWork_156 rfl (lv_at hl 4 rfl) ?_
        refine lv_bipush (v := 58) hx hb dX1_readWork_157 (by decide) ?_
        obtain ⟨r410, hcr410, hsp⟩ := clE hsp
        refine call_z (w1 := [(a0, .inr (1, [.ref a1, .int g0_1, .int r410.2, .ref a2])), (a1, .inl (cI, 60, .inl f1))]) (ws' := [(a0, .inr (1, [.ref a1, .int g0_1, .int r410.2, .ref a2])), (a1, .inl (cI, 60, .inl f1)), (a2, .inr (3, [.int r404.1, .int r404.2.1, .int r408.2.2, .int r404.2.2.2.1, .ref a3])), (a3, .inl (cI, 4, .inl r404.2.2.2.2))]) (va_runV (As := [.int 58]) (rest := []) ⟨hx, hb, hml, hown, hts⟩ (k_X1_readSign l D cI cZ cC cS H.size a0 a1 g0_1 r408.2.1 (.ref a2) f1 58 r410 hcr410) (cwV 1 hts gX1_readWork_X1_readSign rfl rfl rfl nd_X1_readSign ⟨Nat.le_of_ble_eq_true rfl, Nat.le_of_ble_eq_true rfl⟩) (PB.preV (ci := 1) (q0 := 0) hKU hP hD [0, 1] rfl rfl rfl rfl) rfl rfl hl.1 rfl (lv_room (Nat.le_of_ble_eq_true rfl)) dX1_readWork_159 ⟨Nat.zero_le _, Nat.zero_le _⟩) hS hP hD hA [0, 1] rfl rfl (by first | (simp only [wset, List.set_cons_zero, List.set_cons_succ]; done) | rfl) rfl (fun H locs hP hD hS hzr410 => ?_)
        refine lv_if_eq (tgt := 180) hx hb dX1_readWork_162 (by decide) (fun c411 => ?_) (fun c411 => ?_)
        · have hsp := itT hsp c411
          refine lv_iconst (v := 0) hx hb dX1_readWork_180 (by decide) ?_
          have hres := Option.some.inj hsp
          subst hres
          exact W.zret (v := 0) hx hb hr (zE (Or.inl rfl)) (fun t ht hW => ⟨⟨0, (), rfl, ⟨rfl, (Or.inl rfl)⟩, P_at ht hP⟩, hS.F ht⟩) hS.2.2 dX1_readWork_181
        have hsp := itF hsp c411
        refine lv_aload_n hx hb dX1_readWork_165 rfl (lv_at hl 4 rfl) ?_
        refine lv_aload_n hx hb dX1_readWork_166 rfl (lv_at hl 4 rfl) ?_
        obtain ⟨r412, hcr412, hsp⟩ := clE hsp
        refine call_i (w1 := [(a0, .inr (1, [.ref a1, .int g0_1, .int r412.2, .ref a2])), (a1, .inl (cI, 60, .inl f1))]) (ws' := [(a0, .inr (1, [.ref a1, .int g0_1, .int r412.2, .ref a2])), (a1, .inl (cI, 60, .inl f1)), (a2, .inr (3, [.int r404.1, .int r404.2.1, .int r408.2.2, .int r404.2.2.2.1, .ref a3])), (a3, .inl (cI, 4, .inl r404.2.2.2.2))]) (va_runV (As := []) (rest := [.ref a0]) ⟨hx, hb, hml, hown, hts⟩ (k_X1_readNumber l D cI cZ cC cS H.size a0 a1 g0_1 r410.2 (.ref a2) f1 r412 hcr412) (cwV 0 hts gX1_readWork_X1_readNumber rfl rfl rfl nd_X1_readNumber ⟨Nat.le_of_ble_eq_true rfl, Nat.le_of_ble_eq_true rfl⟩) (PB.preV (ci := 1) (q0 := 0) hKU hP hD [0, 1] rfl rfl rfl rfl) rfl rfl hl.1 rfl (lv_room (Nat.le_of_ble_eq_true rfl)) dX1_readWork_167 ⟨Nat.zero_le _, Nat.zero_le _⟩) hS hP hD hA [0, 1] rfl rfl (by first | (simp only [wset, List.set_cons_zero, List.set_cons_succ]; done) | rfl) rfl (fun H locs hP hD hS => ?_)
        obtain ⟨r413, hcr413, hsp⟩ := clE hsp
        refine call_z (w1 := [(a0, .inr (1, [.ref a1, .int g0_1, .int r412.2, .ref a2])), (a2, .inr (3, [.int r404.1, .int r404.2.1, .int r408.2.2, .int r413.2, .ref a3]))]) (ws' := [(a0, .inr (1, [.ref a1, .int g0_1, .int r412.2, .ref a2])), (a1, .inl (cI, 60, .inl f1)), (a2, .inr (3, [.int r404.1, .int r404.2.1, .int r408.2.2, .int r413.2, .ref a3])), (a3, .inl (cI, 4, .inl r404.2.2.2.2))]) (va_runV (As := [.int r412.1]) (rest := []) ⟨hx, hb, hml, hown, hts⟩ (k_X1_readDrops l D cI cZ cC cS H.size a0 a2 (.ref a1) (.int g0_1) (.int r412.2) (.int r404.1) (.int r404.2.1) (.int r408.2.2) r404.2.2.2.1 (.ref a3) r412.1 r413 hcr413) (cwV 1 hts gX1_readWork_X1_readDrops rfl rfl rfl nd_X1_readDrops ⟨Nat.le_of_ble_eq_true rfl, Nat.le_of_ble_eq_true rfl⟩) (PB.preV (ci := 1) (q0 := 0) hKU hP hD [0, 2] rfl rfl rfl rfl) rfl rfl hl.1 rfl (lv_room (Nat.le_of_ble_eq_true rfl)) dX1_readWork_170 ⟨Nat.zero_le _, Nat.zero_le _⟩) hS hP hD hA [0, 2] rfl rfl (by first | (simp only [wset, List.set_cons_zero, List.set_cons_succ]; done) | rfl) rfl (fun H locs hP hD hS hzr413 => ?_)
        refine lv_if_eq (tgt := 180) hx hb dX1_readWork_173 (by decide) (fun c414 => ?_) (fun c414 => ?_)
        · have hsp := itT hsp c414
          refine lv_iconst (v := 0) hx hb dX1_readWork_180 (by decide) ?_
          have hres := Option.some.inj hsp
          subst hres
          exact W.zret (v := 0) hx hb hr (zE (Or.inl rfl)) (fun t ht hW => ⟨⟨0, (), rfl, ⟨rfl, (Or.inl rfl)⟩, P_at ht hP⟩, hS.F ht⟩) hS.2.2 dX1_readWork_181
        have hsp := itF hsp c414
        refine lv_iconst (v := 1) hx hb dX1_readWork_176 (by decide) ?_
        refine lv_goto (tgt := 181) hx hb dX1_readWork_177 (by decide) ?_
        have hres := Option.some.inj hsp
        subst hres
        exact W.zret (v := 1) hx hb hr (zE (Or.inr rfl)) (fun t ht hW => ⟨⟨1, (), rfl, ⟨rfl, (Or.inr rfl)⟩, P_at ht hP⟩, hS.F ht⟩) hS.2.2 dX1_readWork_181
      have hsp := itF hsp c407
      by_cases c415 : r2 = 100
      · have hsp := itT hsp c415
        refine lv_lookup (off := 82) (tgt := 182) hx hb dX1_readWork_100 (by decide) (by rw [c415]; decide) (by decide) ?_
        refine lv_aload_n hx hb dX1_readWork_182 rfl (lv_at hl 4 rfl) ?_
        refine lv_bipush (v := 8) hx hb dX1_readWork_183 (by decide) ?_
        obtain ⟨r416, hcr416, hsp⟩ := clE hsp
        refine call_z (w1 := [(a0, .inr (1, [.ref a1, .int g0_1, .int r416.2.1, .ref a2])), (a1, .inl (cI, 60, .inl f1)), (a2, .inr (3, [.int r404.1, .int r416.2.2, .int r404.2.2.1, .int r404.2.2.2.1, .ref a3]))]) (ws' := [(a0, .inr (1, [.ref a1, .int g0_1, .int r416.2.1, .ref a2])), (a1, .inl (cI, 60, .inl f1)), (a2, .inr (3, [.int r404.1, .int r416.2.2, .int r404.2.2.1, .int r404.2.2.2.1, .ref a3])), (a3, .inl (cI, 4, .inl r404.2.2.2.2))]) (va_runV (As := [.int 8]) (rest := []) ⟨hx, hb, hml, hown, hts⟩ (k_X1_readTarget l D cI cZ cC cS H.size a0 a1 a2 g0_1 x403 f1 (.int r404.1) r404.2.1 (.int r404.2.2.1) (.int r404.2.2.2.1) (.ref a3) 8 r416 hcr416) (cwV 1 hts gX1_readWork_X1_readTarget rfl rfl rfl nd_X1_readTarget ⟨Nat.le_of_ble_eq_true rfl, Nat.le_of_ble_eq_true rfl⟩) (PB.preV (ci := 1) (q0 := 0) hKU hP hD [0, 1, 2] rfl rfl rfl rfl) rfl rfl hl.1 rfl (lv_room (Nat.le_of_ble_eq_true rfl)) dX1_readWork_185 ⟨Nat.zero_le _, Nat.zero_le _⟩) hS hP hD hA [0, 1, 2] rfl rfl (by first | (simp only [wset, List.set_cons_zero, List.set_cons_succ]; done) | rfl) rfl (fun H locs hP hD hS hzr416 => ?_)
        refine lv_if_eq (tgt := 218) hx hb dX1_readWork_188 (by decide) (fun c417 => ?_) (fun c417 => ?_)
        · have hsp := itT hsp c417
          refine lv_iconst (v := 0) hx hb dX1_readWork_218 (by decide) ?_
          have hres := Option.some.inj hsp
          subst hres
          exact W.zret (v := 0) hx hb hr (zE (Or.inl rfl)) (fun t ht hW => ⟨⟨0, (), rfl, ⟨rfl, (Or.inl rfl)⟩, P_at ht hP⟩, hS.F ht⟩) hS.2.2 dX1_readWork_219
        have hsp := itF hsp c417
        refine lv_aload_n hx hb dX1_readWork_191 rfl (lv_at hl 4 rfl) ?_
        refine lv_bipush (v := 58) hx hb dX1_readWork_192 (by decide) ?_
        obtain ⟨r418, hcr418, hsp⟩ := clE hsp
        refine call_z (w1 := [(a0, .inr (1, [.ref a1, .int g0_1, .int r418.2, .ref a2])), (a1, .inl (cI, 60, .inl f1))]) (ws' := [(a0, .inr (1, [.ref a1, .int g0_1, .int r418.2, .ref a2])), (a1, .inl (cI, 60, .inl f1)), (a2, .inr (3, [.int r404.1, .int r416.2.2, .int r404.2.2.1, .int r404.2.2.2.1, .ref a3])), (a3, .inl (cI, 4, .inl r404.2.2.2.2))]) (va_runV (As := [.int 58]) (rest := []) ⟨hx, hb, hml, hown, hts⟩ (k_X1_readSign l D cI cZ cC cS H.size a0 a1 g0_1 r416.2.1 (.ref a2) f1 58 r418 hcr418) (cwV 1 hts gX1_readWork_X1_readSign rfl rfl rfl nd_X1_readSign ⟨Nat.le_of_ble_eq_true rfl, Nat.le_of_ble_eq_true rfl⟩) (PB.preV (ci := 1) (q0 := 0) hKU hP hD [0, 1] rfl rfl rfl rfl) rfl rfl hl.1 rfl (lv_room (Nat.le_of_ble_eq_true rfl)) dX1_readWork_194 ⟨Nat.zero_le _, Nat.zero_le _⟩) hS hP hD hA [0, 1] rfl rfl (by first | (simp only [wset, List.set_cons_zero, List.set_cons_succ]; done) | rfl) rfl (fun H locs hP hD hS hzr418 => ?_)
        refine lv_if_eq (tgt := 218) hx hb dX1_readWork_197 (by decide) (fun c419 => ?_) (fun c419 => ?_)
        · have hsp := itT hsp c419
          refine lv_iconst (v := 0) hx hb dX1_readWork_218 (by decide) ?_
          have hres := Option.some.inj hsp
          subst hres
          exact W.zret (v := 0) hx hb hr (zE (Or.inl rfl)) (fun t ht hW => ⟨⟨0, (), rfl, ⟨rfl, (Or.inl rfl)⟩, P_at ht hP⟩, hS.F ht⟩) hS.2.2 dX1_readWork_219
        have hsp := itF hsp c419
        refine lv_aload_n hx hb dX1_readWork_200 rfl (lv_at hl 4 rfl) ?_
        refine lv_aload_n hx hb dX1_readWork_201 rfl (lv_at hl 4 rfl) ?_
        refine lv_iconst (v := 1) hx hb dX1_readWork_202 (by decide) ?_
        refine lv_bipush (v := 9) hx hb dX1_readWork_203 (by decide) ?_
        obtain ⟨r420, hcr420, hsp⟩ := clE hsp
        refine call_i (w1 := [(a0, .inr (1, [.ref a1, .int g0_1, .int r420.2, .ref a2])), (a1, .inl (cI, 60, .inl f1))]) (ws' := [(a0, .inr (1, [.ref a1, .int g0_1, .int r420.2, .ref a2])), (a1, .inl (cI, 60, .inl f1)), (a2, .inr (3, [.int r404.1, .int r416.2.2, .int r404.2.2.1, .int r404.2.2.2.1, .ref a3])), (a3, .inl (cI, 4, .inl r404.2.2.2.2))]) (va_runV (As := [.int 1, .int 9]) (rest := [.ref a0]) ⟨hx, hb, hml, hown, hts⟩ (k_X1_readDigit l D cI cZ cC cS H.size a0 a1 g0_1 r418.2 (.ref a2) f1 1 9 r420 hcr420) (cwV 2 hts gX1_readWork_X1_readDigit rfl rfl rfl nd_X1_readDigit ⟨Nat.le_of_ble_eq_true rfl, Nat.le_of_ble_eq_true rfl⟩) (PB.preV (ci := 1) (q0 := 0) hKU hP hD [0, 1] rfl rfl rfl rfl) rfl rfl hl.1 rfl (lv_room (Nat.le_of_ble_eq_true rfl)) dX1_readWork_205 ⟨Nat.zero_le _, Nat.zero_le _⟩) hS hP hD hA [0, 1] rfl rfl (by first | (simp only [wset, List.set_cons_zero, List.set_cons_succ]; done) | rfl) rfl (fun H locs hP hD hS => ?_)
        obtain ⟨r421, hcr421, hsp⟩ := clE hsp
        refine call_z (w1 := [(a0, .inr (1, [.ref a1, .int g0_1, .int r420.2, .ref a2])), (a2, .inr (3, [.int r404.1, .int r416.2.2, .int r404.2.2.1, .int r421.2, .ref a3]))]) (ws' := [(a0, .inr (1, [.ref a1, .int g0_1, .int r420.2, .ref a2])), (a1, .inl (cI, 60, .inl f1)), (a2, .inr (3, [.int r404.1, .int r416.2.2, .int r404.2.2.1, .int r421.2, .ref a3])), (a3, .inl (cI, 4, .inl r404.2.2.2.2))]) (va_runV (As := [.int r420.1]) (rest := []) ⟨hx, hb, hml, hown, hts⟩ (k_X1_readDrops l D cI cZ cC cS H.size a0 a2 (.ref a1) (.int g0_1) (.int r420.2) (.int r404.1) (.int r416.2.2) (.int r404.2.2.1) r404.2.2.2.1 (.ref a3) r420.1 r421 hcr421) (cwV 1 hts gX1_readWork_X1_readDrops rfl rfl rfl nd_X1_readDrops ⟨Nat.le_of_ble_eq_true rfl, Nat.le_of_ble_eq_true rfl⟩) (PB.preV (ci := 1) (q0 := 0) hKU hP hD [0, 2] rfl rfl rfl rfl) rfl rfl hl.1 rfl (lv_room (Nat.le_of_ble_eq_true rfl)) dX1_readWork_208 ⟨Nat.zero_le _, Nat.zero_le _⟩) hS hP hD hA [0, 2] rfl rfl (by first | (simp only [wset, List.set_cons_zero, List.set_cons_succ]; done) | rfl) rfl (fun H locs hP hD hS hzr421 => ?_)
        refine lv_if_eq (tgt := 218) hx hb dX1_readWork_211 (by decide) (fun c422 => ?_) (fun c422 => ?_)
        · have hsp := itT hsp c422
          refine lv_iconst (v := 0) hx hb dX1_readWork_218 (by decide) ?_
          have hres := Option.some.inj hsp
          subst hres
          exact W.zret (v := 0) hx hb hr (zE (Or.inl rfl)) (fun t ht hW => ⟨⟨0, (), rfl, ⟨rfl, (Or.inl rfl)⟩, P_at ht hP⟩, hS.F ht⟩) hS.2.2 dX1_readWork_219
        have hsp := itF hsp c422
        refine lv_iconst (v := 1) hx hb dX1_readWork_214 (by decide) ?_
        refine lv_goto (tgt := 219) hx hb dX1_readWork_215 (by decide) ?_
        have hres := Option.some.inj hsp
        subst hres
        exact W.zret (v := 1) hx hb hr (zE (Or.inr rfl)) (fun t ht hW => ⟨⟨1, (), rfl, ⟨rfl, (Or.inr rfl)⟩, P_at ht hP⟩, hS.F ht⟩) hS.2.2 dX1_readWork_219
      have hsp := itF hsp c415
      by_cases c423 : r2 = 112
      · have hsp := itT hsp c423
        refine lv_lookup (off := 120) (tgt := 220) hx hb dX1_readWork_100 (by decide) (by rw [c423]; decide) (by decide) ?_
        refine lv_aload_n hx hb dX1_readWork_220 rfl (lv_at hl 4 rfl) ?_
        refine lv_bipush (v := 6) hx hb dX1_readWork_221 (by decide) ?_
        obtain ⟨r424, hcr424, hsp⟩ := clE hsp
        refine call_z (w1 := [(a0, .inr (1, [.ref a1, .int g0_1, .int r424.2.1, .ref a2])), (a1, .inl (cI, 60, .inl f1)), (a2, .inr (3, [.int r404.1, .int r424.2.2, .int r404.2.2.1, .int r404.2.2.2.1, .ref a3]))]) (ws' := [(a0, .inr (1, [.ref a1, .int g0_1, .int r424.2.1, .ref a2])), (a1, .inl (cI, 60, .inl f1)), (a2, .inr (3, [.int r404.1, .int r424.2.2, .int r404.2.2.1, .int r404.2.2.2.1, .ref a3])), (a3, .inl (cI, 4, .inl r404.2.2.2.2))]) (va_runV (As := [.int 6]) (rest := []) ⟨hx, hb, hml, hown, hts⟩ (k_X1_readTarget l D cI cZ cC cS H.size a0 a1 a2 g0_1 x403 f1 (.int r404.1) r404.2.1 (.int r404.2.2.1) (.int r404.2.2.2.1) (.ref a3) 6 r424 hcr424) (cwV 1 hts gX1_readWork_X1_readTarget rfl rfl rfl nd_X1_readTarget ⟨Nat.le_of_ble_eq_true rfl, Nat.le_of_ble_eq_true rfl⟩) (PB.preV (ci := 1) (q0 := 0) hKU hP hD [0, 1, 2] rfl rfl rfl rfl) rfl rfl hl.1 rfl (lv_room (Nat.le_of_ble_eq_true rfl)) dX1_readWork_223 ⟨Nat.zero_le _, Nat.zero_le _⟩) hS hP hD hA [0, 1, 2] rfl rfl (by first | (simp only [wset, List.set_cons_zero, List.set_cons_succ]; done) | rfl) rfl (fun H locs hP hD hS hzr424 => ?_)
        have hres := Option.some.inj hsp
        subst hres
        exact W.zret (v := r424.1) hx hb hr (zE hzr424) (fun t ht hW => ⟨⟨r424.1, (), rfl, ⟨rfl, hzr424⟩, P_at ht hP⟩, hS.F ht⟩) hS.2.2 dX1_readWork_226
      have hsp := itF hsp c423
      refine lv_lookup (off := 127) (tgt := 227) hx hb dX1_readWork_100 (by decide) ((lv_osw c405 (by decide)).trans ((lv_osw c407 (by decide)).trans ((lv_osw c415 (by decide)).trans ((lv_osw c423 (by decide)).trans rfl)))) (by decide) ?_
      refine lv_iconst (v := 1) hx hb dX1_readWork_227 (by decide) ?_
      have hres := Option.some.inj hsp
      subst hres
      exact W.zret (v := 1) hx hb hr (zE (Or.inr rfl)) (fun t ht hW => ⟨⟨1, (), rfl, ⟨rfl, (Or.inr rfl)⟩, P_at ht hP⟩, hS.F ht⟩) hS.2.2 dX1_readWork_228
    have hsp := itF hsp c402
    refine lv_iload_n hx hb dX1_readWork_66 rfl (lv_at hl 1 rfl) ?_
    refine lv_if_ne (tgt := 80) hx hb dX1_readWork_67 (by decide) (fun _ => ?_) (fun hc => absurd hc (by decide))
    refine lv_aload_n hx hb dX1_readWork_80 rfl (lv_at hl 4 rfl) ?_
    refine lv_dup hx hb dX1_readWork_81 rfl ?_
    refine va_get (D := D) (ci := 1) (v := .int r1.2) (C := RX1) (T := TX1) (N := 4) hx hb hts hi_X1 hown hK hP 0 rfl rfl 2 (by decide) hf_19 (fun _ h9 => h9) rfl dX1_readWork_82 ?_
    refine lv_iconst (v := 1) hx hb dX1_readWork_85 (by decide) ?_
    refine lv_iadd hx hb dX1_readWork_86 ?_
    obtain ⟨x425, ex425, hsp⟩ := nmE hsp
    refine r_top ex425 ?_
    refine va_put (D := D) (ci := 1) (v := .int x425) (ty := .int) (C := RX1) (T := TX1) (N := 4) hx hb hts hi_X1 tyX1 tyX1_ok nmX1 hown hK hP hD hS 0 rfl rfl 2 (by decide) hf_19 (fun _ h9 => h9) rfl (by decide +kernel) rfl rfl (Nat.le_of_ble_eq_true rfl) dX1_readWork_87 (fun H locs hP hD hS => ?_)
    have hP : va_P D vwCl [(a0, .inr (1, [.ref a1, .int g0_1, .int x425, .ref a2])), (a1, .inl (cI, 60, .inl f1)), (a2, .inr (3, [.int g2_0, .int g2_1, .int g2_2, .int g2_3, .ref a3])), (a3, .inl (cI, 4, .inl f3))] H := hP
    have hD : va_D A [(a0, .inr (1, [.ref a1, .int g0_1, .int x425, .ref a2])), (a1, .inl (cI, 60, .inl f1)), (a2, .inr (3, [.int g2_0, .int g2_1, .int g2_2, .int g2_3, .ref a3])), (a3, .inl (cI, 4, .inl f3))] := hD
    refine lv_aload_n hx hb dX1_readWork_90 rfl (lv_at hl 4 rfl) ?_
    refine va_get (D := D) (ci := 1) (v := .ref a2) (C := RX1) (T := TX1) (N := 4) hx hb hts hi_X1 hown hK hP 0 rfl rfl 3 (by decide) hf_25 (fun _ h9 => h9) rfl dX1_readWork_91 ?_
    refine lv_iload_n hx hb dX1_readWork_94 rfl (lv_at hl 2 rfl) ?_
    refine lv_iload_n hx hb dX1_readWork_95 rfl (lv_at hl 3 rfl) ?_
    obtain ⟨r426, hcr426, hsp⟩ := clE hsp
    refine call_v (w1 := [(a2, .inr (3, [.int r426.1, .int r426.2.1, .int r426.2.2.1, .int r426.2.2.2.1, .ref a3])), (a3, .inl (cI, 4, .inl r426.2.2.2.2))]) (ws' := [(a0, .inr (1, [.ref a1, .int g0_1, .int x425, .ref a2])), (a1, .inl (cI, 60, .inl f1)), (a2, .inr (3, [.int r426.1, .int r426.2.1, .int r426.2.2.1, .int r426.2.2.2.1, .ref a3])), (a3, .inl (cI, 4, .inl r426.2.2.2.2))]) (va_runV (As := [.int r2, .int r1.1]) (rest := []) ⟨hx, hb, hml, hown, hts⟩ (k_X3_begin l D cI cZ cC cS H.size a2 a3 g2_0 g2_1 g2_2 g2_3 f3 r2 r1.1 r426 hcr426) (cwV 2 hts gX1_readWork_X3_begin rfl rfl rfl nd_X3_begin ⟨Nat.le_of_ble_eq_true rfl, Nat.le_of_ble_eq_true rfl⟩) (PB.preV (ci := 3) (q0 := 2) hKU hP hD [2, 3] rfl rfl rfl rfl) rfl rfl hl.1 rfl (lv_room (Nat.le_of_ble_eq_true rfl)) dX1_readWork_96 ⟨Nat.zero_le _, Nat.zero_le _⟩) hS hP hD hA [2, 3] rfl rfl (by first | (simp only [wset, List.set_cons_zero, List.set_cons_succ]; done) | rfl) rfl (fun H locs hP hD hS => ?_)
    refine lv_iload_n hx hb dX1_readWork_99 rfl (lv_at hl 2 rfl) ?_
    by_cases c427 : r2 = 43
    · have hsp := itT hsp c427
      refine lv_lookup (off := 44) (tgt := 144) hx hb dX1_readWork_100 (by decide) (by rw [c427]; decide) (by decide) ?_
      refine lv_aload_n hx hb dX1_readWork_144 rfl (lv_at hl 4 rfl) ?_
      obtain ⟨r428, hcr428, hsp⟩ := clE hsp
      refine call_z (w1 := [(a0, .inr (1, [.ref a1, .int g0_1, .int r428.2.1, .ref a2])), (a1, .inl (cI, 60, .inl f1)), (a2, .inr (3, [.int r426.1, .int r426.2.1, .int r426.2.2.1, .int r426.2.2.2.1, .ref a3])), (a3, .inl (cI, 4, .inl r428.2.2))]) (ws' := [(a0, .inr (1, [.ref a1, .int g0_1, .int r428.2.1, .ref a2])), (a1, .inl (cI, 60, .inl f1)), (a2, .inr (3, [.int r426.1, .int r426.2.1, .int r426.2.2.1, .int r426.2.2.2.1, .ref a3])), (a3, .inl (cI, 4, .inl r428.2.2))]) (va_runV (As := []) (rest := []) ⟨hx, hb, hml, hown, hts⟩ (k_X1_readKinds l D cI cZ cC cS H.size a0 a1 a2 a3 g0_1 x425 f1 (.int r426.1) (.int r426.2.1) (.int r426.2.2.1) (.int r426.2.2.2.1) r426.2.2.2.2 r428 hcr428) (cwV 0 hts gX1_readWork_X1_readKinds rfl rfl rfl nd_X1_readKinds ⟨Nat.le_of_ble_eq_true rfl, Nat.le_of_ble_eq_true rfl⟩) (PB.preV (ci := 1) (q0 := 0) hKU hP hD [0, 1, 2, 3] rfl rfl rfl rfl) rfl rfl hl.1 rfl (lv_room (Nat.le_of_ble_eq_true rfl)) dX1_readWork_145 ⟨Nat.zero_le _, Nat.zero_le _⟩) hS hP hD hA [0, 1, 2, 3] rfl rfl (by first | (simp only [wset, List.set_cons_zero, List.set_cons_succ]; done) | rfl) rfl (fun H locs hP hD hS hzr428 => ?_)
      have hres := Option.some.inj hsp
      subst hres
      exact W.zret (v := r428.1) hx hb hr (zE hzr428) (fun t ht hW => ⟨⟨r428.1, (), rfl, ⟨rfl, hzr428⟩, P_at ht hP⟩, hS.F ht⟩) hS.2.2 dX1_readWork_148
    have hsp := itF hsp c427
    by_cases c429 : r2 = 62
    · have hsp := itT hsp c429
      refine lv_lookup (off := 49) (tgt := 149) hx hb dX1_readWork_100 (by decide) (by rw [c429]; decide) (by decide) ?_
      refine lv_aload_n hx hb dX1_readWork_149 rfl (lv_at hl 4 rfl) ?_
      obtain ⟨r430, hcr430, hsp⟩ := clE hsp
      refine call_z (w1 := [(a0, .inr (1, [.ref a1, .int g0_1, .int r430.2.1, .ref a2])), (a1, .inl (cI, 60, .inl f1)), (a2, .inr (3, [.int r426.1, .int r426.2.1, .int r430.2.2, .int r426.2.2.2.1, .ref a3]))]) (ws' := [(a0, .inr (1, [.ref a1, .int g0_1, .int r430.2.1, .ref a2])), (a1, .inl (cI, 60, .inl f1)), (a2, .inr (3, [.int r426.1, .int r426.2.1, .int r430.2.2, .int r426.2.2.2.1, .ref a3])), (a3, .inl (cI, 4, .inl r426.2.2.2.2))]) (va_runV (As := []) (rest := []) ⟨hx, hb, hml, hown, hts⟩ (k_X1_readOther l D cI cZ cC cS H.size a0 a1 a2 g0_1 x425 f1 (.int r426.1) (.int r426.2.1) r426.2.2.1 (.int r426.2.2.2.1) (.ref a3) r430 hcr430) (cwV 0 hts gX1_readWork_X1_readOther rfl rfl rfl nd_X1_readOther ⟨Nat.le_of_ble_eq_true rfl, Nat.le_of_ble_eq_true rfl⟩) (PB.preV (ci := 1) (q0 := 0) hKU hP hD [0, 1, 2] rfl rfl rfl rfl) rfl rfl hl.1 rfl (lv_room (Nat.le_of_ble_eq_true rfl)) dX1_readWork_150 ⟨Nat.zero_le _, Nat.zero_le _⟩) hS hP hD hA [0, 1, 2] rfl rfl (by first | (simp only [wset, List.set_cons_zero, List.set_cons_succ]; done) | rfl) rfl (fun H locs hP hD hS hzr430 => ?_)
      refine lv_if_eq (tgt := 180) hx hb dX1_readWork_153 (by decide) (fun c431 => ?_) (fun c431 => ?_)
      · have hsp := itT hsp c431
        refine lv_iconst (v := 0) hx hb dX1_readWork_180 (by decide) ?_
        have hres := Option.some.inj hsp
        subst hres
        exact W.zret (v := 0) hx hb hr (zE (Or.inl rfl)) (fun t ht hW => ⟨⟨0, (), rfl, ⟨rfl, (Or.inl rfl)⟩, P_at ht hP⟩, hS.F ht⟩) hS.2.2 dX1_readWork_181
      have hsp := itF hsp c431
      refine lv_aload_n hx hb dX1_readWork_156 rfl (lv_at hl 4 rfl) ?_
      refine lv_bipush (v := 58) hx hb dX1_readWork_157 (by decide) ?_
      obtain ⟨r432, hcr432, hsp⟩ := clE hsp
      refine call_z (w1 := [(a0, .inr (1, [.ref a1, .int g0_1, .int r432.2, .ref a2])), (a1, .inl (cI, 60, .inl f1))]) (ws' := [(a0, .inr (1, [.ref a1, .int g0_1, .int r432.2, .ref a2])), (a1, .inl (cI, 60, .inl f1)), (a2, .inr (3, [.int r426.1, .int r426.2.1, .int r430.2.2, .int r426.2.2.2.1, .ref a3])), (a3, .inl (cI, 4, .inl r426.2.2.2.2))]) (va_runV (As := [.int 58]) (rest := []) ⟨hx, hb, hml, hown, hts⟩ (k_X1_readSign l D cI cZ cC cS H.size a0 a1 g0_1 r430.2.1 (.ref a2) f1 58 r432 hcr432) (cwV 1 hts gX1_readWork_X1_readSign rfl rfl rfl nd_X1_readSign ⟨Nat.le_of_ble_eq_true rfl, Nat.le_of_ble_eq_true rfl⟩) (PB.preV (ci := 1) (q0 := 0) hKU hP hD [0, 1] rfl rfl rfl rfl) rfl rfl hl.1 rfl (lv_room (Nat.le_of_ble_eq_true rfl)) dX1_readWork_159 ⟨Nat.zero_le _, Nat.zero_le _⟩) hS hP hD hA [0, 1] rfl rfl (by first | (simp only [wset, List.set_cons_zero, List.set_cons_succ]; done) | rfl) rfl (fun H locs hP hD hS hzr432 => ?_)
      refine lv_if_eq (tgt := 180) hx hb dX1_readWork_162 (by decide) (fun c433 => ?_) (fun c433 => ?_)
      · have hsp := itT hsp c433
        refine lv_iconst (v := 0) hx hb dX1_readWork_180 (by decide) ?_
        have hres := Option.some.inj hsp
        subst hres
        exact W.zret (v := 0) hx hb hr (zE (Or.inl rfl)) (fun t ht hW => ⟨⟨0, (), rfl, ⟨rfl, (Or.inl rfl)⟩, P_at ht hP⟩, hS.F ht⟩) hS.2.2 dX1_readWork_181
      have hsp := itF hsp c433
      refine lv_aload_n hx hb dX1_readWork_165 rfl (lv_at hl 4 rfl) ?_
      refine lv_aload_n hx hb dX1_readWork_166 rfl (lv_at hl 4 rfl) ?_
      obtain ⟨r434, hcr434, hsp⟩ := clE hsp
      refine call_i (w1 := [(a0, .inr (1, [.ref a1, .int g0_1, .int r434.2, .ref a2])), (a1, .inl (cI, 60, .inl f1))]) (ws' := [(a0, .inr (1, [.ref a1, .int g0_1, .int r434.2, .ref a2])), (a1, .inl (cI, 60, .inl f1)), (a2, .inr (3, [.int r426.1, .int r426.2.1, .int r430.2.2, .int r426.2.2.2.1, .ref a3])), (a3, .inl (cI, 4, .inl r426.2.2.2.2))]) (va_runV (As := []) (rest := [.ref a0]) ⟨hx, hb, hml, hown, hts⟩ (k_X1_readNumber l D cI cZ cC cS H.size a0 a1 g0_1 r432.2 (.ref a2) f1 r434 hcr434) (cwV 0 hts gX1_readWork_X1_readNumber rfl rfl rfl nd_X1_readNumber ⟨Nat.le_of_ble_eq_true rfl, Nat.le_of_ble_eq_true rfl⟩) (PB.preV (ci := 1) (q0 := 0) hKU hP hD [0, 1] rfl rfl rfl rfl) rfl rfl hl.1 rfl (lv_room (Nat.le_of_ble_eq_true rfl)) dX1_readWork_167 ⟨Nat.zero_le _, Nat.zero_le _⟩) hS hP hD hA [0, 1] rfl rfl (by first | (simp only [wset, List.set_cons_zero, List.set_cons_succ]; done) | rfl) rfl (fun H locs hP hD hS => ?_)
      obtain ⟨r435, hcr435, hsp⟩ := clE hsp
      refine call_z (w1 := [(a0, .inr (1, [.ref a1, .int g0_1, .int r434.2, .ref a2])), (a2, .inr (3, [.int r426.1, .int r426.2.1, .int r430.2.2, .int r435.2, .ref a3]))]) (ws' := [(a0, .inr (1, [.ref a1, .int g0_1, .int r434.2, .ref a2])), (a1, .inl (cI, 60, .inl f1)), (a2, .inr (3, [.int r426.1, .int r426.2.1, .int r430.2.2, .int r435.2, .ref a3])), (a3, .inl (cI, 4, .inl r426.2.2.2.2))]) (va_runV (As := [.int r434.1]) (rest := []) ⟨hx, hb, hml, hown, hts⟩ (k_X1_readDrops l D cI cZ cC cS H.size a0 a2 (.ref a1) (.int g0_1) (.int r434.2) (.int r426.1) (.int r426.2.1) (.int r430.2.2) r426.2.2.2.1 (.ref a3) r434.1 r435 hcr435) (cwV 1 hts gX1_readWork_X1_readDrops rfl rfl rfl nd_X1_readDrops ⟨Nat.le_of_ble_eq_true rfl, Nat.le_of_ble_eq_true rfl⟩) (PB.preV (ci := 1) (q0 := 0) hKU hP hD [0, 2] rfl rfl rfl rfl) rfl rfl hl.1 rfl (lv_room (Nat.le_of_ble_eq_true rfl)) dX1_readWork_170 ⟨Nat.zero_le _, Nat.zero_le _⟩) hS hP hD hA [0, 2] rfl rfl (by first | (simp only [wset, List.set_cons_zero, List.set_cons_succ]; done) | rfl) rfl (fun H locs hP hD hS hzr435 => ?_)
      refine lv_if_eq (tgt := 180) hx hb dX1_readWork_173 (by decide) (fun c436 => ?_) (fun c436 => ?_)
      · have hsp := itT hsp c436
        refine lv_iconst (v := 0) hx hb dX1_readWork_180 (by decide) ?_
        have hres := Option.some.inj hsp
        subst hres
        exact W.zret (v := 0) hx hb hr (zE (Or.inl rfl)) (fun t ht hW => ⟨⟨0, (), rfl, ⟨rfl, (Or.inl rfl)⟩, P_at ht hP⟩, hS.F ht⟩) hS.2.2 dX1_readWork_181
      have hsp := itF hsp c436
      refine lv_iconst (v := 1) hx hb dX1_readWork_176 (by decide) ?_
      refine lv_goto (tgt := 181) hx hb dX1_readWork_177 (by decide) ?_
      have hres := Option.some.inj hsp
      subst hres
      exact W.zret (v := 1) hx hb hr (zE (Or.inr rfl)) (fun t ht hW => ⟨⟨1, (), rfl, ⟨rfl, (Or.inr rfl)⟩, P_at ht hP⟩, hS.F ht⟩) hS.2.2 dX1_readWork_181
    have hsp := itF hsp c429
    by_cases c437 : r2 = 100
    · have hsp := itT hsp c437
      refine lv_lookup (off := 82) (tgt := 182) hx hb dX1_readWork_100 (by decide) (by rw [c437]; decide) (by decide) ?_
      refine lv_aload_n hx hb dX1_readWork_182 rfl (lv_at hl 4 rfl) ?_
      refine lv_bipush (v := 8) hx hb dX1_readWork_183 (by decide) ?_
      obtain ⟨r438, hcr438, hsp⟩ := clE hsp
      refine call_z (w1 := [(a0, .inr (1, [.ref a1, .int g0_1, .int r438.2.1, .ref a2])), (a1, .inl (cI, 60, .inl f1)), (a2, .inr (3, [.int r426.1, .int r438.2.2, .int r426.2.2.1, .int r426.2.2.2.1, .ref a3]))]) (ws' := [(a0, .inr (1, [.ref a1, .int g0_1, .int r438.2.1, .ref a2])), (a1, .inl (cI, 60, .inl f1)), (a2, .inr (3, [.int r426.1, .int r438.2.2, .int r426.2.2.1, .int r426.2.2.2.1, .ref a3])), (a3, .inl (cI, 4, .inl r426.2.2.2.2))]) (va_runV (As := [.int 8]) (rest := []) ⟨hx, hb, hml, hown, hts⟩ (k_X1_readTarget l D cI cZ cC cS H.size a0 a1 a2 g0_1 x425 f1 (.int r426.1) r426.2.1 (.int r426.2.2.1) (.int r426.2.2.2.1) (.ref a3) 8 r438 hcr438) (cwV 1 hts gX1_readWork_X1_readTarget rfl rfl rfl nd_X1_readTarget ⟨Nat.le_of_ble_eq_true rfl, Nat.le_of_ble_eq_true rfl⟩) (PB.preV (ci := 1) (q0 := 0) hKU hP hD [0, 1, 2] rfl rfl rfl rfl) rfl rfl hl.1 rfl (lv_room (Nat.le_of_ble_eq_true rfl)) dX1_readWork_185 ⟨Nat.zero_le _, Nat.zero_le _⟩) hS hP hD hA [0, 1, 2] rfl rfl (by first | (simp only [wset, List.set_cons_zero, List.set_cons_succ]; done) | rfl) rfl (fun H locs hP hD hS hzr438 => ?_)
      refine lv_if_eq (tgt := 218) hx hb dX1_readWork_188 (by decide) (fun c439 => ?_) (fun c439 => ?_)
      · have hsp := itT hsp c439
        refine lv_iconst (v := 0) hx hb dX1_readWork_218 (by decide) ?_
        have hres := Option.some.inj hsp
        subst hres
        exact W.zret (v := 0) hx hb hr (zE (Or.inl rfl)) (fun t ht hW => ⟨⟨0, (), rfl, ⟨rfl, (Or.inl rfl)⟩, P_at ht hP⟩, hS.F ht⟩) hS.2.2 dX1_readWork_219
      have hsp := itF hsp c439
      refine lv_aload_n hx hb dX1_readWork_191 rfl (lv_at hl 4 rfl) ?_
      refine lv_bipush (v := 58) hx hb dX1_readWork_192 (by decide) ?_
      obtain ⟨r440, hcr440, hsp⟩ := clE hsp
      refine call_z (w1 := [(a0, .inr (1, [.ref a1, .int g0_1, .int r440.2, .ref a2])), (a1, .inl (cI, 60, .inl f1))]) (ws' := [(a0, .inr (1, [.ref a1, .int g0_1, .int r440.2, .ref a2])), (a1, .inl (cI, 60, .inl f1)), (a2, .inr (3, [.int r426.1, .int r438.2.2, .int r426.2.2.1, .int r426.2.2.2.1, .ref a3])), (a3, .inl (cI, 4, .inl r426.2.2.2.2))]) (va_runV (As := [.int 58]) (rest := []) ⟨hx, hb, hml, hown, hts⟩ (k_X1_readSign l D cI cZ cC cS H.size a0 a1 g0_1 r438.2.1 (.ref a2) f1 58 r440 hcr440) (cwV 1 hts gX1_readWork_X1_readSign rfl rfl rfl nd_X1_readSign ⟨Nat.le_of_ble_eq_true rfl, Nat.le_of_ble_eq_true rfl⟩) (PB.preV (ci := 1) (q0 := 0) hKU hP hD [0, 1] rfl rfl rfl rfl) rfl rfl hl.1 rfl (lv_room (Nat.le_of_ble_eq_true rfl)) dX1_readWork_194 ⟨Nat.zero_le _, Nat.zero_le _⟩) hS hP hD hA [0, 1] rfl rfl (by first | (simp only [wset, List.set_cons_zero, List.set_cons_succ]; done) | rfl) rfl (fun H locs hP hD hS hzr440 => ?_)
      refine lv_if_eq (tgt := 218) hx hb dX1_readWork_197 (by decide) (fun c441 => ?_) (fun c441 => ?_)
      · have hsp := itT hsp c441
        refine lv_iconst (v := 0) hx hb dX1_readWork_218 (by decide) ?_
        have hres := Option.some.inj hsp
        subst hres
        exact W.zret (v := 0) hx hb hr (zE (Or.inl rfl)) (fun t ht hW => ⟨⟨0, (), rfl, ⟨rfl, (Or.inl rfl)⟩, P_at ht hP⟩, hS.F ht⟩) hS.2.2 dX1_readWork_219
      have hsp := itF hsp c441
      refine lv_aload_n hx hb dX1_readWork_200 rfl (lv_at hl 4 rfl) ?_
      refine lv_aload_n hx hb dX1_readWork_201 rfl (lv_at hl 4 rfl) ?_
      refine lv_iconst (v := 1) hx hb dX1_readWork_202 (by decide) ?_
      refine lv_bipush (v := 9) hx hb dX1_readWork_203 (by decide) ?_
      obtain ⟨r442, hcr442, hsp⟩ := clE hsp
      refine call_i (w1 := [(a0, .inr (1, [.ref a1, .int g0_1, .int r442.2, .ref a2])), (a1, .inl (cI, 60, .inl f1))]) (ws' := [(a0, .inr (1, [.ref a1, .int g0_1, .int r442.2, .ref a2])), (a1, .inl (cI, 60, .inl f1)), (a2, .inr (3, [.int r426.1, .int r438.2.2, .int r426.2.2.1, .int r426.2.2.2.1, .ref a3])), (a3, .inl (cI, 4, .inl r426.2.2.2.2))]) (va_runV (As := [.int 1, .int 9]) (rest := [.ref a0]) ⟨hx, hb, hml, hown, hts⟩ (k_X1_readDigit l D cI cZ cC cS H.size a0 a1 g0_1 r440.2 (.ref a2) f1 1 9 r442 hcr442) (cwV 2 hts gX1_readWork_X1_readDigit rfl rfl rfl nd_X1_readDigit ⟨Nat.le_of_ble_eq_true rfl, Nat.le_of_ble_eq_true rfl⟩) (PB.preV (ci := 1) (q0 := 0) hKU hP hD [0, 1] rfl rfl rfl rfl) rfl rfl hl.1 rfl (lv_room (Nat.le_of_ble_eq_true rfl)) dX1_readWork_205 ⟨Nat.zero_le _, Nat.zero_le _⟩) hS hP hD hA [0, 1] rfl rfl (by first | (simp only [wset, List.set_cons_zero, List.set_cons_succ]; done) | rfl) rfl (fun H locs hP hD hS => ?_)
      obtain ⟨r443, hcr443, hsp⟩ := clE hsp
      refine call_z (w1 := [(a0, .inr (1, [.ref a1, .int g0_1, .int r442.2, .ref a2])), (a2, .inr (3, [.int r426.1, .int r438.2.2, .int r426.2.2.1, .int r443.2, .ref a3]))]) (ws' := [(a0, .inr (1, [.ref a1, .int g0_1, .int r442.2, .ref a2])), (a1, .inl (cI, 60, .inl f1)), (a2, .inr (3, [.int r426.1, .int r438.2.2, .int r426.2.2.1, .int r443.2, .ref a3])), (a3, .inl (cI, 4, .inl r426.2.2.2.2))]) (va_runV (As := [.int r442.1]) (rest := []) ⟨hx, hb, hml, hown, hts⟩ (k_X1_readDrops l D cI cZ cC cS H.size a0 a2 (.ref a1) (.int g0_1) (.int r442.2) (.int r426.1) (.int r438.2.2) (.int r426.2.2.1) r426.2.2.2.1 (.ref a3) r442.1 r443 hcr443) (cwV 1 hts gX1_readWork_X1_readDrops rfl rfl rfl nd_X1_readDrops ⟨Nat.le_of_ble_eq_true rfl, Nat.le_of_ble_eq_true rfl⟩) (PB.preV (ci := 1) (q0 := 0) hKU hP hD [0, 2] rfl rfl rfl rfl) rfl rfl hl.1 rfl (lv_room (Nat.le_of_ble_eq_true rfl)) dX1_readWork_208 ⟨Nat.zero_le _, Nat.zero_le _⟩) hS hP hD hA [0, 2] rfl rfl (by first | (simp only [wset, List.set_cons_zero, List.set_cons_succ]; done) | rfl) rfl (fun H locs hP hD hS hzr443 => ?_)
      refine lv_if_eq (tgt := 218) hx hb dX1_readWork_211 (by decide) (fun c444 => ?_) (fun c444 => ?_)
      · have hsp := itT hsp c444
        refine lv_iconst (v := 0) hx hb dX1_readWork_218 (by decide) ?_
        have hres := Option.some.inj hsp
        subst hres
        exact W.zret (v := 0) hx hb hr (zE (Or.inl rfl)) (fun t ht hW => ⟨⟨0, (), rfl, ⟨rfl, (Or.inl rfl)⟩, P_at ht hP⟩, hS.F ht⟩) hS.2.2 dX1_readWork_219
      have hsp := itF hsp c444
      refine lv_iconst (v := 1) hx hb dX1_readWork_214 (by decide) ?_
      refine lv_goto (tgt := 219) hx hb dX1_readWork_215 (by decide) ?_
      have hres := Option.some.inj hsp
      subst hres
      exact W.zret (v := 1) hx hb hr (zE (Or.inr rfl)) (fun t ht hW => ⟨⟨1, (), rfl, ⟨rfl, (Or.inr rfl)⟩, P_at ht hP⟩, hS.F ht⟩) hS.2.2 dX1_readWork_219
    have hsp := itF hsp c437
    by_cases c445 : r2 = 112
    · have hsp := itT hsp c445
      refine lv_lookup (off := 120) (tgt := 220) hx hb dX1_readWork_100 (by decide) (by rw [c445]; decide) (by decide) ?_
      refine lv_aload_n hx hb dX1_readWork_220 rfl (lv_at hl 4 rfl) ?_
      refine lv_bipush (v := 6) hx hb dX1_readWork_221 (by decide) ?_
      obtain ⟨r446, hcr446, hsp⟩ := clE hsp
      refine call_z (w1 := [(a0, .inr (1, [.ref a1, .int g0_1, .int r446.2.1, .ref a2])), (a1, .inl (cI, 60, .inl f1)), (a2, .inr (3, [.int r426.1, .int r446.2.2, .int r426.2.2.1, .int r426.2.2.2.1, .ref a3]))]) (ws' := [(a0, .inr (1, [.ref a1, .int g0_1, .int r446.2.1, .ref a2])), (a1, .inl (cI, 60, .inl f1)), (a2, .inr (3, [.int r426.1, .int r446.2.2, .int r426.2.2.1, .int r426.2.2.2.1, .ref a3])), (a3, .inl (cI, 4, .inl r426.2.2.2.2))]) (va_runV (As := [.int 6]) (rest := []) ⟨hx, hb, hml, hown, hts⟩ (k_X1_readTarget l D cI cZ cC cS H.size a0 a1 a2 g0_1 x425 f1 (.int r426.1) r426.2.1 (.int r426.2.2.1) (.int r426.2.2.2.1) (.ref a3) 6 r446 hcr446) (cwV 1 hts gX1_readWork_X1_readTarget rfl rfl rfl nd_X1_readTarget ⟨Nat.le_of_ble_eq_true rfl, Nat.le_of_ble_eq_true rfl⟩) (PB.preV (ci := 1) (q0 := 0) hKU hP hD [0, 1, 2] rfl rfl rfl rfl) rfl rfl hl.1 rfl (lv_room (Nat.le_of_ble_eq_true rfl)) dX1_readWork_223 ⟨Nat.zero_le _, Nat.zero_le _⟩) hS hP hD hA [0, 1, 2] rfl rfl (by first | (simp only [wset, List.set_cons_zero, List.set_cons_succ]; done) | rfl) rfl (fun H locs hP hD hS hzr446 => ?_)
      have hres := Option.some.inj hsp
      subst hres
      exact W.zret (v := r446.1) hx hb hr (zE hzr446) (fun t ht hW => ⟨⟨r446.1, (), rfl, ⟨rfl, hzr446⟩, P_at ht hP⟩, hS.F ht⟩) hS.2.2 dX1_readWork_226
    have hsp := itF hsp c445
    refine lv_lookup (off := 127) (tgt := 227) hx hb dX1_readWork_100 (by decide) ((lv_osw c427 (by decide)).trans ((lv_osw c429 (by decide)).trans ((lv_osw c437 (by decide)).trans ((lv_osw c445 (by decide)).trans rfl)))) (by decide) ?_
    refine lv_iconst (v := 1) hx hb dX1_readWork_227 (by decide) ?_
    have hres := Option.some.inj hsp
    subst hres
    exact W.zret (v := 1) hx hb hr (zE (Or.inr rfl)) (fun t ht hW => ⟨⟨1, (), rfl, ⟨rfl, (Or.inr rfl)⟩, P_at ht hP⟩, hS.F ht⟩) hS.2.2 dX1_readWork_228
  have hsp := itF hsp c401
  refine lv_iload_n hx hb dX1_readWork_43 rfl (lv_at hl 1 rfl) ?_
  refine lv_bipush (v := 112) hx hb dX1_readWork_44 (by decide) ?_
  refine lv_icmp_eq (tgt := 55) hx hb dX1_readWork_46 (by decide) (fun c447 => ?_) (fun c447 => ?_)
  · have hsp := itT hsp c447
    refine lv_iconst (v := 1) hx hb dX1_readWork_55 (by decide) ?_
    refine lv_goto (tgt := 60) hx hb dX1_readWork_56 (by decide) ?_
    refine lv_istore (lv' := [(4, .int 1), (3, .int 1), (2, .int r2), (1, .int r1.1), (0, .ref a0)]) hx hb dX1_readWork_60 hl (by decide) rfl (fun ls hl => ?_)
    refine lv_iload_n hx hb dX1_readWork_62 rfl (lv_at hl 3 rfl) ?_
    refine lv_if_lt (tgt := 73) hx hb dX1_readWork_63 (by decide) (fun c448 => ?_) (fun c448 => ?_)
    · have hsp := itT hsp c448
      refine lv_iload hx hb dX1_readWork_73 (lv_at hl 0 rfl) ?_
      refine lv_if_ne (tgt := 80) hx hb dX1_readWork_75 (by decide) (fun _ => ?_) (fun hc => absurd hc (by decide))
      refine lv_aload_n hx hb dX1_readWork_80 rfl (lv_at hl 4 rfl) ?_
      refine lv_dup hx hb dX1_readWork_81 rfl ?_
      refine va_get (D := D) (ci := 1) (v := .int r1.2) (C := RX1) (T := TX1) (N := 4) hx hb hts hi_X1 hown hK hP 0 rfl rfl 2 (by decide) hf_19 (fun _ h9 => h9) rfl dX1_readWork_82 ?_
      refine lv_iconst (v := 1) hx hb dX1_readWork_85 (by decide) ?_
      refine lv_iadd hx hb dX1_readWork_86 ?_
      obtain ⟨x449, ex449, hsp⟩ := nmE hsp
      refine r_top ex449 ?_
      refine va_put (D := D) (ci := 1) (v := .int x449) (ty := .int) (C := RX1) (T := TX1) (N := 4) hx hb hts hi_X1 tyX1 tyX1_ok nmX1 hown hK hP hD hS 0 rfl rfl 2 (by decide) hf_19 (fun _ h9 => h9) rfl (by decide +kernel) rfl rfl (Nat.le_of_ble_eq_true rfl) dX1_readWork_87 (fun H locs hP hD hS => ?_)
      have hP : va_P D vwCl [(a0, .inr (1, [.ref a1, .int g0_1, .int x449, .ref a2])), (a1, .inl (cI, 60, .inl f1)), (a2, .inr (3, [.int g2_0, .int g2_1, .int g2_2, .int g2_3, .ref a3])), (a3, .inl (cI, 4, .inl f3))] H := hP
      have hD : va_D A [(a0, .inr (1, [.ref a1, .int g0_1, .int x449, .ref a2])), (a1, .inl (cI, 60, .inl f1)), (a2, .inr (3, [.int g2_0, .int g2_1, .int g2_2, .int g2_3, .ref a3])), (a3, .inl (cI, 4, .inl f3))] := hD
      refine lv_aload_n hx hb dX1_readWork_90 rfl (lv_at hl 4 rfl) ?_
      refine va_get (D := D) (ci := 1) (v := .ref a2) (C := RX1) (T := TX1) (N := 4) hx hb hts hi_X1 hown hK hP 0 rfl rfl 3 (by decide) hf_25 (fun _ h9 => h9) rfl dX1_readWork_91 ?_
      refine lv_iload_n hx hb dX1_readWork_94 rfl (lv_at hl 2 rfl) ?_
      refine lv_iload_n hx hb dX1_readWork_95 rfl (lv_at hl 3 rfl) ?_
      obtain ⟨r450, hcr450, hsp⟩ := clE hsp
      refine call_v (w1 := [(a2, .inr (3, [.int r450.1, .int r450.2.1, .int r450.2.2.1, .int r450.2.2.2.1, .ref a3])), (a3, .inl (cI, 4, .inl r450.2.2.2.2))]) (ws' := [(a0, .inr (1, [.ref a1, .int g0_1, .int x449, .ref a2])), (a1, .inl (cI, 60, .inl f1)), (a2, .inr (3, [.int r450.1, .int r450.2.1, .int r450.2.2.1, .int r450.2.2.2.1, .ref a3])), (a3, .inl (cI, 4, .inl r450.2.2.2.2))]) (va_runV (As := [.int r2, .int r1.1]) (rest := []) ⟨hx, hb, hml, hown, hts⟩ (k_X3_begin l D cI cZ cC cS H.size a2 a3 g2_0 g2_1 g2_2 g2_3 f3 r2 r1.1 r450 hcr450) (cwV 2 hts gX1_readWork_X3_begin rfl rfl rfl nd_X3_begin ⟨Nat.le_of_ble_eq_true rfl, Nat.le_of_ble_eq_true rfl⟩) (PB.preV (ci := 3) (q0 := 2) hKU hP hD [2, 3] rfl rfl rfl rfl) rfl rfl hl.1 rfl (lv_room (Nat.le_of_ble_eq_true rfl)) dX1_readWork_96 ⟨Nat.zero_le _, Nat.zero_le _⟩) hS hP hD hA [2, 3] rfl rfl (by first | (simp only [wset, List.set_cons_zero, List.set_cons_succ]; done) | rfl) rfl (fun H locs hP hD hS => ?_)
      refine lv_iload_n hx hb dX1_readWork_99 rfl (lv_at hl 2 rfl) ?_
      by_cases c451 : r2 = 43
      · have hsp := itT hsp c451
        refine lv_lookup (off := 44) (tgt := 144) hx hb dX1_readWork_100 (by decide) (by rw [c451]; decide) (by decide) ?_
        refine lv_aload_n hx hb dX1_readWork_144 rfl (lv_at hl 4 rfl) ?_
        obtain ⟨r452, hcr452, hsp⟩ := clE hsp
        refine call_z (w1 := [(a0, .inr (1, [.ref a1, .int g0_1, .int r452.2.1, .ref a2])), (a1, .inl (cI, 60, .inl f1)), (a2, .inr (3, [.int r450.1, .int r450.2.1, .int r450.2.2.1, .int r450.2.2.2.1, .ref a3])), (a3, .inl (cI, 4, .inl r452.2.2))]) (ws' := [(a0, .inr (1, [.ref a1, .int g0_1, .int r452.2.1, .ref a2])), (a1, .inl (cI, 60, .inl f1)), (a2, .inr (3, [.int r450.1, .int r450.2.1, .int r450.2.2.1, .int r450.2.2.2.1, .ref a3])), (a3, .inl (cI, 4, .inl r452.2.2))]) (va_runV (As := []) (rest := []) ⟨hx, hb, hml, hown, hts⟩ (k_X1_readKinds l D cI cZ cC cS H.size a0 a1 a2 a3 g0_1 x449 f1 (.int r450.1) (.int r450.2.1) (.int r450.2.2.1) (.int r450.2.2.2.1) r450.2.2.2.2 r452 hcr452) (cwV 0 hts gX1_readWork_X1_readKinds rfl rfl rfl nd_X1_readKinds ⟨Nat.le_of_ble_eq_true rfl, Nat.le_of_ble_eq_true rfl⟩) (PB.preV (ci := 1) (q0 := 0) hKU hP hD [0, 1, 2, 3] rfl rfl rfl rfl) rfl rfl hl.1 rfl (lv_room (Nat.le_of_ble_eq_true rfl)) dX1_readWork_145 ⟨Nat.zero_le _, Nat.zero_le _⟩) hS hP hD hA [0, 1, 2, 3] rfl rfl (by first | (simp only [wset, List.set_cons_zero, List.set_cons_succ]; done) | rfl) rfl (fun H locs hP hD hS hzr452 => ?_)
        have hres := Option.some.inj hsp
        subst hres
        exact W.zret (v := r452.1) hx hb hr (zE hzr452) (fun t ht hW => ⟨⟨r452.1, (), rfl, ⟨rfl, hzr452⟩, P_at ht hP⟩, hS.F ht⟩) hS.2.2 dX1_readWork_148
      have hsp := itF hsp c451
      by_cases c453 : r2 = 62
      · have hsp := itT hsp c453
        refine lv_lookup (off := 49) (tgt := 149) hx hb dX1_readWork_100 (by decide) (by rw [c453]; decide) (by decide) ?_
        refine lv_aload_n hx hb dX1_readWork_149 rfl (lv_at hl 4 rfl) ?_
        obtain ⟨r454, hcr454, hsp⟩ := clE hsp
        refine call_z (w1 := [(a0, .inr (1, [.ref a1, .int g0_1, .int r454.2.1, .ref a2])), (a1, .inl (cI, 60, .inl f1)), (a2, .inr (3, [.int r450.1, .int r450.2.1, .int r454.2.2, .int r450.2.2.2.1, .ref a3]))]) (ws' := [(a0, .inr (1, [.ref a1, .int g0_1, .int r454.2.1, .ref a2])), (a1, .inl (cI, 60, .inl f1)), (a2, .inr (3, [.int r450.1, .int r450.2.1, .int r454.2.2, .int r450.2.2.2.1, .ref a3])), (a3, .inl (cI, 4, .inl r450.2.2.2.2))]) (va_runV (As := []) (rest := []) ⟨hx, hb, hml, hown, hts⟩ (k_X1_readOther l D cI cZ cC cS H.size a0 a1 a2 g0_1 x449 f1 (.int r450.1) (.int r450.2.1) r450.2.2.1 (.int r450.2.2.2.1) (.ref a3) r454 hcr454) (cwV 0 hts gX1_readWork_X1_readOther rfl rfl rfl nd_X1_readOther ⟨Nat.le_of_ble_eq_true rfl, Nat.le_of_ble_eq_true rfl⟩) (PB.preV (ci := 1) (q0 := 0) hKU hP hD [0, 1, 2] rfl rfl rfl rfl) rfl rfl hl.1 rfl (lv_room (Nat.le_of_ble_eq_true rfl)) dX1_readWork_150 ⟨Nat.zero_le _, Nat.zero_le _⟩) hS hP hD hA [0, 1, 2] rfl rfl (by first | (simp only [wset, List.set_cons_zero, List.set_cons_succ]; done) | rfl) rfl (fun H locs hP hD hS hzr454 => ?_)
        refine lv_if_eq (tgt := 180) hx hb dX1_readWork_153 (by decide) (fun c455 => ?_) (fun c455 => ?_)
        · have hsp := itT hsp c455
          refine lv_iconst (v := 0) hx hb dX1_readWork_180 (by decide) ?_
          have hres := Option.some.inj hsp
          subst hres
          exact W.zret (v := 0) hx hb hr (zE (Or.inl rfl)) (fun t ht hW => ⟨⟨0, (), rfl, ⟨rfl, (Or.inl rfl)⟩, P_at ht hP⟩, hS.F ht⟩) hS.2.2 dX1_readWork_181
        have hsp := itF hsp c455
        refine lv_aload_n hx hb dX1_readWork_156 rfl (lv_at hl 4 rfl) ?_
        refine lv_bipush (v := 58) hx hb dX1_readWork_157 (by decide) ?_
        obtain ⟨r456, hcr456, hsp⟩ := clE hsp
        refine call_z (w1 := [(a0, .inr (1, [.ref a1, .int g0_1, .int r456.2, .ref a2])), (a1, .inl (cI, 60, .inl f1))]) (ws' := [(a0, .inr (1, [.ref a1, .int g0_1, .int r456.2, .ref a2])), (a1, .inl (cI, 60, .inl f1)), (a2, .inr (3, [.int r450.1, .int r450.2.1, .int r454.2.2, .int r450.2.2.2.1, .ref a3])), (a3, .inl (cI, 4, .inl r450.2.2.2.2))]) (va_runV (As := [.int 58]) (rest := []) ⟨hx, hb, hml, hown, hts⟩ (k_X1_readSign l D cI cZ cC cS H.size a0 a1 g0_1 r454.2.1 (.ref a2) f1 58 r456 hcr456) (cwV 1 hts gX1_readWork_X1_readSign rfl rfl rfl nd_X1_readSign ⟨Nat.le_of_ble_eq_true rfl, Nat.le_of_ble_eq_true rfl⟩) (PB.preV (ci := 1) (q0 := 0) hKU hP hD [0, 1] rfl rfl rfl rfl) rfl rfl hl.1 rfl (lv_room (Nat.le_of_ble_eq_true rfl)) dX1_readWork_159 ⟨Nat.zero_le _, Nat.zero_le _⟩) hS hP hD hA [0, 1] rfl rfl (by first | (simp only [wset, List.set_cons_zero, List.set_cons_succ]; done) | rfl) rfl (fun H locs hP hD hS hzr456 => ?_)
        refine lv_if_eq (tgt := 180) hx hb dX1_readWork_162 (by decide) (fun c457 => ?_) (fun c457 => ?_)
        · have hsp := itT hsp c457
          refine lv_iconst (v := 0) hx hb dX1_readWork_180 (by decide) ?_
          have hres := Option.some.inj hsp
          subst hres
          exact W.zret (v := 0) hx hb hr (zE (Or.inl rfl)) (fun t ht hW => ⟨⟨0, (), rfl, ⟨rfl, (Or.inl rfl)⟩, P_at ht hP⟩, hS.F ht⟩) hS.2.2 dX1_readWork_181
        have hsp := itF hsp c457
        refine lv_aload_n hx hb dX1_readWork_165 rfl (lv_at hl 4 rfl) ?_
        refine lv_aload_n hx hb dX1_readWork_166 rfl (lv_at hl 4 rfl) ?_
        obtain ⟨r458, hcr458, hsp⟩ := clE hsp
        refine call_i (w1 := [(a0, .inr (1, [.ref a1, .int g0_1, .int r458.2, .ref a2])), (a1, .inl (cI, 60, .inl f1))]) (ws' := [(a0, .inr (1, [.ref a1, .int g0_1, .int r458.2, .ref a2])), (a1, .inl (cI, 60, .inl f1)), (a2, .inr (3, [.int r450.1, .int r450.2.1, .int r454.2.2, .int r450.2.2.2.1, .ref a3])), (a3, .inl (cI, 4, .inl r450.2.2.2.2))]) (va_runV (As := []) (rest := [.ref a0]) ⟨hx, hb, hml, hown, hts⟩ (k_X1_readNumber l D cI cZ cC cS H.size a0 a1 g0_1 r456.2 (.ref a2) f1 r458 hcr458) (cwV 0 hts gX1_readWork_X1_readNumber rfl rfl rfl nd_X1_readNumber ⟨Nat.le_of_ble_eq_true rfl, Nat.le_of_ble_eq_true rfl⟩) (PB.preV (ci := 1) (q0 := 0) hKU hP hD [0, 1] rfl rfl rfl rfl) rfl rfl hl.1 rfl (lv_room (Nat.le_of_ble_eq_true rfl)) dX1_readWork_167 ⟨Nat.zero_le _, Nat.zero_le _⟩) hS hP hD hA [0, 1] rfl rfl (by first | (simp only [wset, List.set_cons_zero, List.set_cons_succ]; done) | rfl) rfl (fun H locs hP hD hS => ?_)
        obtain ⟨r459, hcr459, hsp⟩ := clE hsp
        refine call_z (w1 := [(a0, .inr (1, [.ref a1, .int g0_1, .int r458.2, .ref a2])), (a2, .inr (3, [.int r450.1, .int r450.2.1, .int r454.2.2, .int r459.2, .ref a3]))]) (ws' := [(a0, .inr (1, [.ref a1, .int g0_1, .int r458.2, .ref a2])), (a1, .inl (cI, 60, .inl f1)), (a2, .inr (3, [.int r450.1, .int r450.2.1, .int r454.2.2, .int r459.2, .ref a3])), (a3, .inl (cI, 4, .inl r450.2.2.2.2))]) (va_runV (As := [.int r458.1]) (rest := []) ⟨hx, hb, hml, hown, hts⟩ (k_X1_readDrops l D cI cZ cC cS H.size a0 a2 (.ref a1) (.int g0_1) (.int r458.2) (.int r450.1) (.int r450.2.1) (.int r454.2.2) r450.2.2.2.1 (.ref a3) r458.1 r459 hcr459) (cwV 1 hts gX1_readWork_X1_readDrops rfl rfl rfl nd_X1_readDrops ⟨Nat.le_of_ble_eq_true rfl, Nat.le_of_ble_eq_true rfl⟩) (PB.preV (ci := 1) (q0 := 0) hKU hP hD [0, 2] rfl rfl rfl rfl) rfl rfl hl.1 rfl (lv_room (Nat.le_of_ble_eq_true rfl)) dX1_readWork_170 ⟨Nat.zero_le _, Nat.zero_le _⟩) hS hP hD hA [0, 2] rfl rfl (by first | (simp only [wset, List.set_cons_zero, List.set_cons_succ]; done) | rfl) rfl (fun H locs hP hD hS hzr459 => ?_)
        refine lv_if_eq (tgt := 180) hx hb dX1_readWork_173 (by decide) (fun c460 => ?_) (fun c460 => ?_)
        · have hsp := itT hsp c460
          refine lv_iconst (v := 0) hx hb dX1_readWork_180 (by decide) ?_
          have hres := Option.some.inj hsp
          subst hres
          exact W.zret (v := 0) hx hb hr (zE (Or.inl rfl)) (fun t ht hW => ⟨⟨0, (), rfl, ⟨rfl, (Or.inl rfl)⟩, P_at ht hP⟩, hS.F ht⟩) hS.2.2 dX1_readWork_181
        have hsp := itF hsp c460
        refine lv_iconst (v := 1) hx hb dX1_readWork_176 (by decide) ?_
        refine lv_goto (tgt := 181) hx hb dX1_readWork_177 (by decide) ?_
        have hres := Option.some.inj hsp
        subst hres
        exact W.zret (v := 1) hx hb hr (zE (Or.inr rfl)) (fun t ht hW => ⟨⟨1, (), rfl, ⟨rfl, (Or.inr rfl)⟩, P_at ht hP⟩, hS.F ht⟩) hS.2.2 dX1_readWork_181
      have hsp := itF hsp c453
      by_cases c461 : r2 = 100
      · have hsp := itT hsp c461
        refine lv_lookup (off := 82) (tgt := 182) hx hb dX1_readWork_100 (by decide) (by rw [c461]; decide) (by decide) ?_
        refine lv_aload_n hx hb dX1_readWork_182 rfl (lv_at hl 4 rfl) ?_
        refine lv_bipush (v := 8) hx hb dX1_readWork_183 (by decide) ?_
        obtain ⟨r462, hcr462, hsp⟩ := clE hsp
        refine call_z (w1 := [(a0, .inr (1, [.ref a1, .int g0_1, .int r462.2.1, .ref a2])), (a1, .inl (cI, 60, .inl f1)), (a2, .inr (3, [.int r450.1, .int r462.2.2, .int r450.2.2.1, .int r450.2.2.2.1, .ref a3]))]) (ws' := [(a0, .inr (1, [.ref a1, .int g0_1, .int r462.2.1, .ref a2])), (a1, .inl (cI, 60, .inl f1)), (a2, .inr (3, [.int r450.1, .int r462.2.2, .int r450.2.2.1, .int r450.2.2.2.1, .ref a3])), (a3, .inl (cI, 4, .inl r450.2.2.2.2))]) (va_runV (As := [.int 8]) (rest := []) ⟨hx, hb, hml, hown, hts⟩ (k_X1_readTarget l D cI cZ cC cS H.size a0 a1 a2 g0_1 x449 f1 (.int r450.1) r450.2.1 (.int r450.2.2.1) (.int r450.2.2.2.1) (.ref a3) 8 r462 hcr462) (cwV 1 hts gX1_readWork_X1_readTarget rfl rfl rfl nd_X1_readTarget ⟨Nat.le_of_ble_eq_true rfl, Nat.le_of_ble_eq_true rfl⟩) (PB.preV (ci := 1) (q0 := 0) hKU hP hD [0, 1, 2] rfl rfl rfl rfl) rfl rfl hl.1 rfl (lv_room (Nat.le_of_ble_eq_true rfl)) dX1_readWork_185 ⟨Nat.zero_le _, Nat.zero_le _⟩) hS hP hD hA [0, 1, 2] rfl rfl (by first | (simp only [wset, List.set_cons_zero, List.set_cons_succ]; done) | rfl) rfl (fun H locs hP hD hS hzr462 => ?_)
        refine lv_if_eq (tgt := 218) hx hb dX1_readWork_188 (by decide) (fun c463 => ?_) (fun c463 => ?_)
        · have hsp := itT hsp c463
          refine lv_iconst (v := 0) hx hb dX1_readWork_218 (by decide) ?_
          have hres := Option.some.inj hsp
          subst hres
          exact W.zret (v := 0) hx hb hr (zE (Or.inl rfl)) (fun t ht hW => ⟨⟨0, (), rfl, ⟨rfl, (Or.inl rfl)⟩, P_at ht hP⟩, hS.F ht⟩) hS.2.2 dX1_readWork_219
        have hsp := itF hsp c463
        refine lv_aload_n hx hb dX1_readWork_191 rfl (lv_at hl 4 rfl) ?_
        refine lv_bipush (v := 58) hx hb dX1_readWork_192 (by decide) ?_
        obtain ⟨r464, hcr464, hsp⟩ := clE hsp
        refine call_z (w1 := [(a0, .inr (1, [.ref a1, .int g0_1, .int r464.2, .ref a2])), (a1, .inl (cI, 60, .inl f1))]) (ws' := [(a0, .inr (1, [.ref a1, .int g0_1, .int r464.2, .ref a2])), (a1, .inl (cI, 60, .inl f1)), (a2, .inr (3, [.int r450.1, .int r462.2.2, .int r450.2.2.1, .int r450.2.2.2.1, .ref a3])), (a3, .inl (cI, 4, .inl r450.2.2.2.2))]) (va_runV (As := [.int 58]) (rest := []) ⟨hx, hb, hml, hown, hts⟩ (k_X1_readSign l D cI cZ cC cS H.size a0 a1 g0_1 r462.2.1 (.ref a2) f1 58 r464 hcr464) (cwV 1 hts gX1_readWork_X1_readSign rfl rfl rfl nd_X1_readSign ⟨Nat.le_of_ble_eq_true rfl, Nat.le_of_ble_eq_true rfl⟩) (PB.preV (ci := 1) (q0 := 0) hKU hP hD [0, 1] rfl rfl rfl rfl) rfl rfl hl.1 rfl (lv_room (Nat.le_of_ble_eq_true rfl)) dX1_readWork_194 ⟨Nat.zero_le _, Nat.zero_le _⟩) hS hP hD hA [0, 1] rfl rfl (by first | (simp only [wset, List.set_cons_zero, List.set_cons_succ]; done) | rfl) rfl (fun H locs hP hD hS hzr464 => ?_)
        refine lv_if_eq (tgt := 218) hx hb dX1_readWork_197 (by decide) (fun c465 => ?_) (fun c465 => ?_)
        · have hsp := itT hsp c465
          refine lv_iconst (v := 0) hx hb dX1_readWork_218 (by decide) ?_
          have hres := Option.some.inj hsp
          subst hres
          exact W.zret (v := 0) hx hb hr (zE (Or.inl rfl)) (fun t ht hW => ⟨⟨0, (), rfl, ⟨rfl, (Or.inl rfl)⟩, P_at ht hP⟩, hS.F ht⟩) hS.2.2 dX1_readWork_219
        have hsp := itF hsp c465
        refine lv_aload_n hx hb dX1_readWork_200 rfl (lv_at hl 4 rfl) ?_
        refine lv_aload_n hx hb dX1_readWork_201 rfl (lv_at hl 4 rfl) ?_
        refine lv_iconst (v := 1) hx hb dX1_readWork_202 (by decide) ?_
        refine lv_bipush (v := 9) hx hb dX1_readWork_203 (by decide) ?_
        obtain ⟨r466, hcr466, hsp⟩ := clE hsp
        refine call_i (w1 := [(a0, .inr (1, [.ref a1, .int g0_1, .int r466.2, .ref a2])), (a1, .inl (cI, 60, .inl f1))]) (ws' := [(a0, .inr (1, [.ref a1, .int g0_1, .int r466.2, .ref a2])), (a1, .inl (cI, 60, .inl f1)), (a2, .inr (3, [.int r450.1, .int r462.2.2, .int r450.2.2.1, .int r450.2.2.2.1, .ref a3])), (a3, .inl (cI, 4, .inl r450.2.2.2.2))]) (va_runV (As := [.int 1, .int 9]) (rest := [.ref a0]) ⟨hx, hb, hml, hown, hts⟩ (k_X1_readDigit l D cI cZ cC cS H.size a0 a1 g0_1 r464.2 (.ref a2) f1 1 9 r466 hcr466) (cwV 2 hts gX1_readWork_X1_readDigit rfl rfl rfl nd_X1_readDigit ⟨Nat.le_of_ble_eq_true rfl, Nat.le_of_ble_eq_true rfl⟩) (PB.preV (ci := 1) (q0 := 0) hKU hP hD [0, 1] rfl rfl rfl rfl) rfl rfl hl.1 rfl (lv_room (Nat.le_of_ble_eq_true rfl)) dX1_readWork_205 ⟨Nat.zero_le _, Nat.zero_le _⟩) hS hP hD hA [0, 1] rfl rfl (by first | (simp only [wset, List.set_cons_zero, List.set_cons_succ]; done) | rfl) rfl (fun H locs hP hD hS => ?_)
        obtain ⟨r467, hcr467, hsp⟩ := clE hsp
        refine call_z (w1 := [(a0, .inr (1, [.ref a1, .int g0_1, .int r466.2, .ref a2])), (a2, .inr (3, [.int r450.1, .int r462.2.2, .int r450.2.2.1, .int r467.2, .ref a3]))]) (ws' := [(a0, .inr (1, [.ref a1, .int g0_1, .int r466.2, .ref a2])), (a1, .inl (cI, 60, .inl f1)), (a2, .inr (3, [.int r450.1, .int r462.2.2, .int r450.2.2.1, .int r467.2, .ref a3])), (a3, .inl (cI, 4, .inl r450.2.2.2.2))]) (va_runV (As := [.int r466.1]) (rest := []) ⟨hx, hb, hml, hown, hts⟩ (k_X1_readDrops l D cI cZ cC cS H.size a0 a2 (.ref a1) (.int g0_1) (.int r466.2) (.int r450.1) (.int r462.2.2) (.int r450.2.2.1) r450.2.2.2.1 (.ref a3) r466.1 r467 hcr467) (cwV 1 hts gX1_readWork_X1_readDrops rfl rfl rfl nd_X1_readDrops ⟨Nat.le_of_ble_eq_true rfl, Nat.le_of_ble_eq_true rfl⟩) (PB.preV (ci := 1) (q0 := 0) hKU hP hD [0, 2] rfl rfl rfl rfl) rfl rfl hl.1 rfl (lv_room (Nat.le_of_ble_eq_true rfl)) dX1_readWork_208 ⟨Nat.zero_le _, Nat.zero_le _⟩) hS hP hD hA [0, 2] rfl rfl (by first | (simp only [wset, List.set_cons_zero, List.set_cons_succ]; done) | rfl) rfl (fun H locs hP hD hS hzr467 => ?_)
        refine lv_if_eq (tgt := 218) hx hb dX1_readWork_211 (by decide) (fun c468 => ?_) (fun c468 => ?_)
        · have hsp := itT hsp c468
          refine lv_iconst (v := 0) hx hb dX1_readWork_218 (by decide) ?_
          have hres := Option.some.inj hsp
          subst hres
          exact W.zret (v := 0) hx hb hr (zE (Or.inl rfl)) (fun t ht hW => ⟨⟨0, (), rfl, ⟨rfl, (Or.inl rfl)⟩, P_at ht hP⟩, hS.F ht⟩) hS.2.2 dX1_readWork_219
        have hsp := itF hsp c468
        refine lv_iconst (v := 1) hx hb dX1_readWork_214 (by decide) ?_
        refine lv_goto (tgt := 219) hx hb dX1_readWork_215 (by decide) ?_
        have hres := Option.some.inj hsp
        subst hres
        exact W.zret (v := 1) hx hb hr (zE (Or.inr rfl)) (fun t ht hW => ⟨⟨1, (), rfl, ⟨rfl, (Or.inr rfl)⟩, P_at ht hP⟩, hS.F ht⟩) hS.2.2 dX1_readWork_219
      have hsp := itF hsp c461
      by_cases c469 : r2 = 112
      · have hsp := itT hsp c469
        refine lv_lookup (off := 120) (tgt := 220) hx hb dX1_readWork_100 (by decide) (by rw [c469]; decide) (by decide) ?_
        refine lv_aload_n hx hb dX1_readWork_220 rfl (lv_at hl 4 rfl) ?_
        refine lv_bipush (v := 6) hx hb dX1_readWork_221 (by decide) ?_
        obtain ⟨r470, hcr470, hsp⟩ := clE hsp
        refine call_z (w1 := [(a0, .inr (1, [.ref a1, .int g0_1, .int r470.2.1, .ref a2])), (a1, .inl (cI, 60, .inl f1)), (a2, .inr (3, [.int r450.1, .int r470.2.2, .int r450.2.2.1, .int r450.2.2.2.1, .ref a3]))]) (ws' := [(a0, .inr (1, [.ref a1, .int g0_1, .int r470.2.1, .ref a2])), (a1, .inl (cI, 60, .inl f1)), (a2, .inr (3, [.int r450.1, .int r470.2.2, .int r450.2.2.1, .int r450.2.2.2.1, .ref a3])), (a3, .inl (cI, 4, .inl r450.2.2.2.2))]) (va_runV (As := [.int 6]) (rest := []) ⟨hx, hb, hml, hown, hts⟩ (k_X1_readTarget l D cI cZ cC cS H.size a0 a1 a2 g0_1 x449 f1 (.int r450.1) r450.2.1 (.int r450.2.2.1) (.int r450.2.2.2.1) (.ref a3) 6 r470 hcr470) (cwV 1 hts gX1_readWork_X1_readTarget rfl rfl rfl nd_X1_readTarget ⟨Nat.le_of_ble_eq_true rfl, Nat.le_of_ble_eq_true rfl⟩) (PB.preV (ci := 1) (q0 := 0) hKU hP hD [0, 1, 2] rfl rfl rfl rfl) rfl rfl hl.1 rfl (lv_room (Nat.le_of_ble_eq_true rfl)) dX1_readWork_223 ⟨Nat.zero_le _, Nat.zero_le _⟩) hS hP hD hA [0, 1, 2] rfl rfl (by first | (simp only [wset, List.set_cons_zero, List.set_cons_succ]; done) | rfl) rfl (fun H locs hP hD hS hzr470 => ?_)
        have hres := Option.some.inj hsp
        subst hres
        exact W.zret (v := r470.1) hx hb hr (zE hzr470) (fun t ht hW => ⟨⟨r470.1, (), rfl, ⟨rfl, hzr470⟩, P_at ht hP⟩, hS.F ht⟩) hS.2.2 dX1_readWork_226
      have hsp := itF hsp c469
      refine lv_lookup (off := 127) (tgt := 227) hx hb dX1_readWork_100 (by decide) ((lv_osw c451 (by decide)).trans ((lv_osw c453 (by decide)).trans ((lv_osw c461 (by decide)).trans ((lv_osw c469 (by decide)).trans rfl)))) (by decide) ?_
      refine lv_iconst (v := 1) hx hb dX1_readWork_227 (by decide) ?_
      have hres := Option.some.inj hsp
      subst hres
      exact W.zret (v := 1) hx hb hr (zE (Or.inr rfl)) (fun t ht hW => ⟨⟨1, (), rfl, ⟨rfl, (Or.inr rfl)⟩, P_at ht hP⟩, hS.F ht⟩) hS.2.2 dX1_readWork_228
    have hsp := itF hsp c448
    refine lv_iload_n hx hb dX1_readWork_66 rfl (lv_at hl 1 rfl) ?_
    refine lv_if_ne (tgt := 80) hx hb dX1_readWork_67 (by decide) (fun _ => ?_) (fun hc => absurd hc (by decide))
    refine lv_aload_n hx hb dX1_readWork_80 rfl (lv_at hl 4 rfl) ?_
    refine lv_dup hx hb dX1_readWork_81 rfl ?_
    refine va_get (D := D) (ci := 1) (v := .int r1.2) (C := RX1) (T := TX1) (N := 4) hx hb hts hi_X1 hown hK hP 0 rfl rfl 2 (by decide) hf_19 (fun _ h9 => h9) rfl dX1_readWork_82 ?_
    refine lv_iconst (v := 1) hx hb dX1_readWork_85 (by decide) ?_
    refine lv_iadd hx hb dX1_readWork_86 ?_
    obtain ⟨x471, ex471, hsp⟩ := nmE hsp
    refine r_top ex471 ?_
    refine va_put (D := D) (ci := 1) (v := .int x471) (ty := .int) (C := RX1) (T := TX1) (N := 4) hx hb hts hi_X1 tyX1 tyX1_ok nmX1 hown hK hP hD hS 0 rfl rfl 2 (by decide) hf_19 (fun _ h9 => h9) rfl (by decide +kernel) rfl rfl (Nat.le_of_ble_eq_true rfl) dX1_readWork_87 (fun H locs hP hD hS => ?_)
    have hP : va_P D vwCl [(a0, .inr (1, [.ref a1, .int g0_1, .int x471, .ref a2])), (a1, .inl (cI, 60, .inl f1)), (a2, .inr (3, [.int g2_0, .int g2_1, .int g2_2, .int g2_3, .ref a3])), (a3, .inl (cI, 4, .inl f3))] H := hP
    have hD : va_D A [(a0, .inr (1, [.ref a1, .int g0_1, .int x471, .ref a2])), (a1, .inl (cI, 60, .inl f1)), (a2, .inr (3, [.int g2_0, .int g2_1, .int g2_2, .int g2_3, .ref a3])), (a3, .inl (cI, 4, .inl f3))] := hD
    refine lv_aload_n hx hb dX1_readWork_90 rfl (lv_at hl 4 rfl) ?_
    refine va_get (D := D) (ci := 1) (v := .ref a2) (C := RX1) (T := TX1) (N := 4) hx hb hts hi_X1 hown hK hP 0 rfl rfl 3 (by decide) hf_25 (fun _ h9 => h9) rfl dX1_readWork_91 ?_
    refine lv_iload_n hx hb dX1_readWork_94 rfl (lv_at hl 2 rfl) ?_
    refine lv_iload_n hx hb dX1_readWork_95 rfl (lv_at hl 3 rfl) ?_
    obtain ⟨r472, hcr472, hsp⟩ := clE hsp
    refine call_v (w1 := [(a2, .inr (3, [.int r472.1, .int r472.2.1, .int r472.2.2.1, .int r472.2.2.2.1, .ref a3])), (a3, .inl (cI, 4, .inl r472.2.2.2.2))]) (ws' := [(a0, .inr (1, [.ref a1, .int g0_1, .int x471, .ref a2])), (a1, .inl (cI, 60, .inl f1)), (a2, .inr (3, [.int r472.1, .int r472.2.1, .int r472.2.2.1, .int r472.2.2.2.1, .ref a3])), (a3, .inl (cI, 4, .inl r472.2.2.2.2))]) (va_runV (As := [.int r2, .int r1.1]) (rest := []) ⟨hx, hb, hml, hown, hts⟩ (k_X3_begin l D cI cZ cC cS H.size a2 a3 g2_0 g2_1 g2_2 g2_3 f3 r2 r1.1 r472 hcr472) (cwV 2 hts gX1_readWork_X3_begin rfl rfl rfl nd_X3_begin ⟨Nat.le_of_ble_eq_true rfl, Nat.le_of_ble_eq_true rfl⟩) (PB.preV (ci := 3) (q0 := 2) hKU hP hD [2, 3] rfl rfl rfl rfl) rfl rfl hl.1 rfl (lv_room (Nat.le_of_ble_eq_true rfl)) dX1_readWork_96 ⟨Nat.zero_le _, Nat.zero_le _⟩) hS hP hD hA [2, 3] rfl rfl (by first | (simp only [wset, List.set_cons_zero, List.set_cons_succ]; done) | rfl) rfl (fun H locs hP hD hS => ?_)
    refine lv_iload_n hx hb dX1_readWork_99 rfl (lv_at hl 2 rfl) ?_
    by_cases c473 : r2 = 43
    · have hsp := itT hsp c473
      refine lv_lookup (off := 44) (tgt := 144) hx hb dX1_readWork_100 (by decide) (by rw [c473]; decide) (by decide) ?_
      refine lv_aload_n hx hb dX1_readWork_144 rfl (lv_at hl 4 rfl) ?_
      obtain ⟨r474, hcr474, hsp⟩ := clE hsp
      refine call_z (w1 := [(a0, .inr (1, [.ref a1, .int g0_1, .int r474.2.1, .ref a2])), (a1, .inl (cI, 60, .inl f1)), (a2, .inr (3, [.int r472.1, .int r472.2.1, .int r472.2.2.1, .int r472.2.2.2.1, .ref a3])), (a3, .inl (cI, 4, .inl r474.2.2))]) (ws' := [(a0, .inr (1, [.ref a1, .int g0_1, .int r474.2.1, .ref a2])), (a1, .inl (cI, 60, .inl f1)), (a2, .inr (3, [.int r472.1, .int r472.2.1, .int r472.2.2.1, .int r472.2.2.2.1, .ref a3])), (a3, .inl (cI, 4, .inl r474.2.2))]) (va_runV (As := []) (rest := []) ⟨hx, hb, hml, hown, hts⟩ (k_X1_readKinds l D cI cZ cC cS H.size a0 a1 a2 a3 g0_1 x471 f1 (.int r472.1) (.int r472.2.1) (.int r472.2.2.1) (.int r472.2.2.2.1) r472.2.2.2.2 r474 hcr474) (cwV 0 hts gX1_readWork_X1_readKinds rfl rfl rfl nd_X1_readKinds ⟨Nat.le_of_ble_eq_true rfl, Nat.le_of_ble_eq_true rfl⟩) (PB.preV (ci := 1) (q0 := 0) hKU hP hD [0, 1, 2, 3] rfl rfl rfl rfl) rfl rfl hl.1 rfl (lv_room (Nat.le_of_ble_eq_true rfl)) dX1_readWork_145 ⟨Nat.zero_le _, Nat.zero_le _⟩) hS hP hD hA [0, 1, 2, 3] rfl rfl (by first | (simp only [wset, List.set_cons_zero, List.set_cons_succ]; done) | rfl) rfl (fun H locs hP hD hS hzr474 => ?_)
      have hres := Option.some.inj hsp
      subst hres
      exact W.zret (v := r474.1) hx hb hr (zE hzr474) (fun t ht hW => ⟨⟨r474.1, (), rfl, ⟨rfl, hzr474⟩, P_at ht hP⟩, hS.F ht⟩) hS.2.2 dX1_readWork_148
    have hsp := itF hsp c473
    by_cases c475 : r2 = 62
    · have hsp := itT hsp c475
      refine lv_lookup (off := 49) (tgt := 149) hx hb dX1_readWork_100 (by decide) (by rw [c475]; decide) (by decide) ?_
      refine lv_aload_n hx hb dX1_readWork_149 rfl (lv_at hl 4 rfl) ?_
      obtain ⟨r476, hcr476, hsp⟩ := clE hsp
      refine call_z (w1 := [(a0, .inr (1, [.ref a1, .int g0_1, .int r476.2.1, .ref a2])), (a1, .inl (cI, 60, .inl f1)), (a2, .inr (3, [.int r472.1, .int r472.2.1, .int r476.2.2, .int r472.2.2.2.1, .ref a3]))]) (ws' := [(a0, .inr (1, [.ref a1, .int g0_1, .int r476.2.1, .ref a2])), (a1, .inl (cI, 60, .inl f1)), (a2, .inr (3, [.int r472.1, .int r472.2.1, .int r476.2.2, .int r472.2.2.2.1, .ref a3])), (a3, .inl (cI, 4, .inl r472.2.2.2.2))]) (va_runV (As := []) (rest := []) ⟨hx, hb, hml, hown, hts⟩ (k_X1_readOther l D cI cZ cC cS H.size a0 a1 a2 g0_1 x471 f1 (.int r472.1) (.int r472.2.1) r472.2.2.1 (.int r472.2.2.2.1) (.ref a3) r476 hcr476) (cwV 0 hts gX1_readWork_X1_readOther rfl rfl rfl nd_X1_readOther ⟨Nat.le_of_ble_eq_true rfl, Nat.le_of_ble_eq_true rfl⟩) (PB.preV (ci := 1) (q0 := 0) hKU hP hD [0, 1, 2] rfl rfl rfl rfl) rfl rfl hl.1 rfl (lv_room (Nat.le_of_ble_eq_true rfl)) dX1_readWork_150 ⟨Nat.zero_le _, Nat.zero_le _⟩) hS hP hD hA [0, 1, 2] rfl rfl (by first | (simp only [wset, List.set_cons_zero, List.set_cons_succ]; done) | rfl) rfl (fun H locs hP hD hS hzr476 => ?_)
      refine lv_if_eq (tgt := 180) hx hb dX1_readWork_153 (by decide) (fun c477 => ?_) (fun c477 => ?_)
      · have hsp := itT hsp c477
        refine lv_iconst (v := 0) hx hb dX1_readWork_180 (by decide) ?_
        have hres := Option.some.inj hsp
        subst hres
        exact W.zret (v := 0) hx hb hr (zE (Or.inl rfl)) (fun t ht hW => ⟨⟨0, (), rfl, ⟨rfl, (Or.inl rfl)⟩, P_at ht hP⟩, hS.F ht⟩) hS.2.2 dX1_readWork_181
      have hsp := itF hsp c477
      refine lv_aload_n hx hb dX1_readWork_156 rfl (lv_at hl 4 rfl) ?_
      refine lv_bipush (v := 58) hx hb dX1_readWork_157 (by decide) ?_
      obtain ⟨r478, hcr478, hsp⟩ := clE hsp
      refine call_z (w1 := [(a0, .inr (1, [.ref a1, .int g0_1, .int r478.2, .ref a2])), (a1, .inl (cI, 60, .inl f1))]) (ws' := [(a0, .inr (1, [.ref a1, .int g0_1, .int r478.2, .ref a2])), (a1, .inl (cI, 60, .inl f1)), (a2, .inr (3, [.int r472.1, .int r472.2.1, .int r476.2.2, .int r472.2.2.2.1, .ref a3])), (a3, .inl (cI, 4, .inl r472.2.2.2.2))]) (va_runV (As := [.int 58]) (rest := []) ⟨hx, hb, hml, hown, hts⟩ (k_X1_readSign l D cI cZ cC cS H.size a0 a1 g0_1 r476.2.1 (.ref a2) f1 58 r478 hcr478) (cwV 1 hts gX1_readWork_X1_readSign rfl rfl rfl nd_X1_readSign ⟨Nat.le_of_ble_eq_true rfl, Nat.le_of_ble_eq_true rfl⟩) (PB.preV (ci := 1) (q0 := 0) hKU hP hD [0, 1] rfl rfl rfl rfl) rfl rfl hl.1 rfl (lv_room (Nat.le_of_ble_eq_true rfl)) dX1_readWork_159 ⟨Nat.zero_le _, Nat.zero_le _⟩) hS hP hD hA [0, 1] rfl rfl (by first | (simp only [wset, List.set_cons_zero, List.set_cons_succ]; done) | rfl) rfl (fun H locs hP hD hS hzr478 => ?_)
      refine lv_if_eq (tgt := 180) hx hb dX1_readWork_162 (by decide) (fun c479 => ?_) (fun c479 => ?_)
      · have hsp := itT hsp c479
        refine lv_iconst (v := 0) hx hb dX1_readWork_180 (by decide) ?_
        have hres := Option.some.inj hsp
        subst hres
        exact W.zret (v := 0) hx hb hr (zE (Or.inl rfl)) (fun t ht hW => ⟨⟨0, (), rfl, ⟨rfl, (Or.inl rfl)⟩, P_at ht hP⟩, hS.F ht⟩) hS.2.2 dX1_readWork_181
      have hsp := itF hsp c479
      refine lv_aload_n hx hb dX1_readWork_165 rfl (lv_at hl 4 rfl) ?_
      refine lv_aload_n hx hb dX1_readWork_166 rfl (lv_at hl 4 rfl) ?_
      obtain ⟨r480, hcr480, hsp⟩ := clE hsp
      refine call_i (w1 := [(a0, .inr (1, [.ref a1, .int g0_1, .int r480.2, .ref a2])), (a1, .inl (cI, 60, .inl f1))]) (ws' := [(a0, .inr (1, [.ref a1, .int g0_1, .int r480.2, .ref a2])), (a1, .inl (cI, 60, .inl f1)), (a2, .inr (3, [.int r472.1, .int r472.2.1, .int r476.2.2, .int r472.2.2.2.1, .ref a3])), (a3, .inl (cI, 4, .inl r472.2.2.2.2))]) (va_runV (As := []) (rest := [.ref a0]) ⟨hx, hb, hml, hown, hts⟩ (k_X1_readNumber l D cI cZ cC cS H.size a0 a1 g0_1 r478.2 (.ref a2) f1 r480 hcr480) (cwV 0 hts gX1_readWork_X1_readNumber rfl rfl rfl nd_X1_readNumber ⟨Nat.le_of_ble_eq_true rfl, Nat.le_of_ble_eq_true rfl⟩) (PB.preV (ci := 1) (q0 := 0) hKU hP hD [0, 1] rfl rfl rfl rfl) rfl rfl hl.1 rfl (lv_room (Nat.le_of_ble_eq_true rfl)) dX1_readWork_167 ⟨Nat.zero_le _, Nat.zero_le _⟩) hS hP hD hA [0, 1] rfl rfl (by first | (simp only [wset, List.set_cons_zero, List.set_cons_succ]; done) | rfl) rfl (fun H locs hP hD hS => ?_)
      obtain ⟨r481, hcr481, hsp⟩ := clE hsp
      refine call_z (w1 := [(a0, .inr (1, [.ref a1, .int g0_1, .int r480.2, .ref a2])), (a2, .inr (3, [.int r472.1, .int r472.2.1, .int r476.2.2, .int r481.2, .ref a3]))]) (ws' := [(a0, .inr (1, [.ref a1, .int g0_1, .int r480.2, .ref a2])), (a1, .inl (cI, 60, .inl f1)), (a2, .inr (3, [.int r472.1, .int r472.2.1, .int r476.2.2, .int r481.2, .ref a3])), (a3, .inl (cI, 4, .inl r472.2.2.2.2))]) (va_runV (As := [.int r480.1]) (rest := []) ⟨hx, hb, hml, hown, hts⟩ (k_X1_readDrops l D cI cZ cC cS H.size a0 a2 (.ref a1) (.int g0_1) (.int r480.2) (.int r472.1) (.int r472.2.1) (.int r476.2.2) r472.2.2.2.1 (.ref a3) r480.1 r481 hcr481) (cwV 1 hts gX1_readWork_X1_readDrops rfl rfl rfl nd_X1_readDrops ⟨Nat.le_of_ble_eq_true rfl, Nat.le_of_ble_eq_true rfl⟩) (PB.preV (ci := 1) (q0 := 0) hKU hP hD [0, 2] rfl rfl rfl rfl) rfl rfl hl.1 rfl (lv_room (Nat.le_of_ble_eq_true rfl)) dX1_readWork_170 ⟨Nat.zero_le _, Nat.zero_le _⟩) hS hP hD hA [0, 2] rfl rfl (by first | (simp only [wset, List.set_cons_zero, List.set_cons_succ]; done) | rfl) rfl (fun H locs hP hD hS hzr481 => ?_)
      refine lv_if_eq (tgt := 180) hx hb dX1_readWork_173 (by decide) (fun c482 => ?_) (fun c482 => ?_)
      · have hsp := itT hsp c482
        refine lv_iconst (v := 0) hx hb dX1_readWork_180 (by decide) ?_
        have hres := Option.some.inj hsp
        subst hres
        exact W.zret (v := 0) hx hb hr (zE (Or.inl rfl)) (fun t ht hW => ⟨⟨0, (), rfl, ⟨rfl, (Or.inl rfl)⟩, P_at ht hP⟩, hS.F ht⟩) hS.2.2 dX1_readWork_181
      have hsp := itF hsp c482
      refine lv_iconst (v := 1) hx hb dX1_readWork_176 (by decide) ?_
      refine lv_goto (tgt := 181) hx hb dX1_readWork_177 (by decide) ?_
      have hres := Option.some.inj hsp
      subst hres
      exact W.zret (v := 1) hx hb hr (zE (Or.inr rfl)) (fun t ht hW => ⟨⟨1, (), rfl, ⟨rfl, (Or.inr rfl)⟩, P_at ht hP⟩, hS.F ht⟩) hS.2.2 dX1_readWork_181
    have hsp := itF hsp c475
    by_cases c483 : r2 = 100
    · have hsp := itT hsp c483
      refine lv_lookup (off := 82) (tgt := 182) hx hb dX1_readWork_100 (by decide) (by rw [c483]; decide) (by decide) ?_
      refine lv_aload_n hx hb dX1_readWork_182 rfl (lv_at hl 4 rfl) ?_
      refine lv_bipush (v := 8) hx hb dX1_readWork_183 (by decide) ?_
      obtain ⟨r484, hcr484, hsp⟩ := clE hsp
      refine call_z (w1 := [(a0, .inr (1, [.ref a1, .int g0_1, .int r484.2.1, .ref a2])), (a1, .inl (cI, 60, .inl f1)), (a2, .inr (3, [.int r472.1, .int r484.2.2, .int r472.2.2.1, .int r472.2.2.2.1, .ref a3]))]) (ws' := [(a0, .inr (1, [.ref a1, .int g0_1, .int r484.2.1, .ref a2])), (a1, .inl (cI, 60, .inl f1)), (a2, .inr (3, [.int r472.1, .int r484.2.2, .int r472.2.2.1, .int r472.2.2.2.1, .ref a3])), (a3, .inl (cI, 4, .inl r472.2.2.2.2))]) (va_runV (As := [.int 8]) (rest := []) ⟨hx, hb, hml, hown, hts⟩ (k_X1_readTarget l D cI cZ cC cS H.size a0 a1 a2 g0_1 x471 f1 (.int r472.1) r472.2.1 (.int r472.2.2.1) (.int r472.2.2.2.1) (.ref a3) 8 r484 hcr484) (cwV 1 hts gX1_readWork_X1_readTarget rfl rfl rfl nd_X1_readTarget ⟨Nat.le_of_ble_eq_true rfl, Nat.le_of_ble_eq_true rfl⟩) (PB.preV (ci := 1) (q0 := 0) hKU hP hD [0, 1, 2] rfl rfl rfl rfl) rfl rfl hl.1 rfl (lv_room (Nat.le_of_ble_eq_true rfl)) dX1_readWork_185 ⟨Nat.zero_le _, Nat.zero_le _⟩) hS hP hD hA [0, 1, 2] rfl rfl (by first | (simp only [wset, List.set_cons_zero, List.set_cons_succ]; done) | rfl) rfl (fun H locs hP hD hS hzr484 => ?_)
      refine lv_if_eq (tgt := 218) hx hb dX1_readWork_188 (by decide) (fun c485 => ?_) (fun c485 => ?_)
      · have hsp := itT hsp c485
        refine lv_iconst (v := 0) hx hb dX1_readWork_218 (by decide) ?_
        have hres := Option.some.inj hsp
        subst hres
        exact W.zret (v := 0) hx hb hr (zE (Or.inl rfl)) (fun t ht hW => ⟨⟨0, (), rfl, ⟨rfl, (Or.inl rfl)⟩, P_at ht hP⟩, hS.F ht⟩) hS.2.2 dX1_readWork_219
      have hsp := itF hsp c485
      refine lv_aload_n hx hb dX1_readWork_191 rfl (lv_at hl 4 rfl) ?_
      refine lv_bipush (v := 58) hx hb dX1_readWork_192 (by decide) ?_
      obtain ⟨r486, hcr486, hsp⟩ := clE hsp
      refine call_z (w1 := [(a0, .inr (1, [.ref a1, .int g0_1, .int r486.2, .ref a2])), (a1, .inl (cI, 60, .inl f1))]) (ws' := [(a0, .inr (1, [.ref a1, .int g0_1, .int r486.2, .ref a2])), (a1, .inl (cI, 60, .inl f1)), (a2, .inr (3, [.int r472.1, .int r484.2.2, .int r472.2.2.1, .int r472.2.2.2.1, .ref a3])), (a3, .inl (cI, 4, .inl r472.2.2.2.2))]) (va_runV (As := [.int 58]) (rest := []) ⟨hx, hb, hml, hown, hts⟩ (k_X1_readSign l D cI cZ cC cS H.size a0 a1 g0_1 r484.2.1 (.ref a2) f1 58 r486 hcr486) (cwV 1 hts gX1_readWork_X1_readSign rfl rfl rfl nd_X1_readSign ⟨Nat.le_of_ble_eq_true rfl, Nat.le_of_ble_eq_true rfl⟩) (PB.preV (ci := 1) (q0 := 0) hKU hP hD [0, 1] rfl rfl rfl rfl) rfl rfl hl.1 rfl (lv_room (Nat.le_of_ble_eq_true rfl)) dX1_readWork_194 ⟨Nat.zero_le _, Nat.zero_le _⟩) hS hP hD hA [0, 1] rfl rfl (by first | (simp only [wset, List.set_cons_zero, List.set_cons_succ]; done) | rfl) rfl (fun H locs hP hD hS hzr486 => ?_)
      refine lv_if_eq (tgt := 218) hx hb dX1_readWork_197 (by decide) (fun c487 => ?_) (fun c487 => ?_)
      · have hsp := itT hsp c487
        refine lv_iconst (v := 0) hx hb dX1_readWork_218 (by decide) ?_
        have hres := Option.some.inj hsp
        subst hres
        exact W.zret (v := 0) hx hb hr (zE (Or.inl rfl)) (fun t ht hW => ⟨⟨0, (), rfl, ⟨rfl, (Or.inl rfl)⟩, P_at ht hP⟩, hS.F ht⟩) hS.2.2 dX1_readWork_219
      have hsp := itF hsp c487
      refine lv_aload_n hx hb dX1_readWork_200 rfl (lv_at hl 4 rfl) ?_
      refine lv_aload_n hx hb dX1_readWork_201 rfl (lv_at hl 4 rfl) ?_
      refine lv_iconst (v := 1) hx hb dX1_readWork_202 (by decide) ?_
      refine lv_bipush (v := 9) hx hb dX1_readWork_203 (by decide) ?_
      obtain ⟨r488, hcr488, hsp⟩ := clE hsp
      refine call_i (w1 := [(a0, .inr (1, [.ref a1, .int g0_1, .int r488.2, .ref a2])), (a1, .inl (cI, 60, .inl f1))]) (ws' := [(a0, .inr (1, [.ref a1, .int g0_1, .int r488.2, .ref a2])), (a1, .inl (cI, 60, .inl f1)), (a2, .inr (3, [.int r472.1, .int r484.2.2, .int r472.2.2.1, .int r472.2.2.2.1, .ref a3])), (a3, .inl (cI, 4, .inl r472.2.2.2.2))]) (va_runV (As := [.int 1, .int 9]) (rest := [.ref a0]) ⟨hx, hb, hml, hown, hts⟩ (k_X1_readDigit l D cI cZ cC cS H.size a0 a1 g0_1 r486.2 (.ref a2) f1 1 9 r488 hcr488) (cwV 2 hts gX1_readWork_X1_readDigit rfl rfl rfl nd_X1_readDigit ⟨Nat.le_of_ble_eq_true rfl, Nat.le_of_ble_eq_true rfl⟩) (PB.preV (ci := 1) (q0 := 0) hKU hP hD [0, 1] rfl rfl rfl rfl) rfl rfl hl.1 rfl (lv_room (Nat.le_of_ble_eq_true rfl)) dX1_readWork_205 ⟨Nat.zero_le _, Nat.zero_le _⟩) hS hP hD hA [0, 1] rfl rfl (by first | (simp only [wset, List.set_cons_zero, List.set_cons_succ]; done) | rfl) rfl (fun H locs hP hD hS => ?_)
      obtain ⟨r489, hcr489, hsp⟩ := clE hsp
      refine call_z (w1 := [(a0, .inr (1, [.ref a1, .int g0_1, .int r488.2, .ref a2])), (a2, .inr (3, [.int r472.1, .int r484.2.2, .int r472.2.2.1, .int r489.2, .ref a3]))]) (ws' := [(a0, .inr (1, [.ref a1, .int g0_1, .int r488.2, .ref a2])), (a1, .inl (cI, 60, .inl f1)), (a2, .inr (3, [.int r472.1, .int r484.2.2, .int r472.2.2.1, .int r489.2, .ref a3])), (a3, .inl (cI, 4, .inl r472.2.2.2.2))]) (va_runV (As := [.int r488.1]) (rest := []) ⟨hx, hb, hml, hown, hts⟩ (k_X1_readDrops l D cI cZ cC cS H.size a0 a2 (.ref a1) (.int g0_1) (.int r488.2) (.int r472.1) (.int r484.2.2) (.int r472.2.2.1) r472.2.2.2.1 (.ref a3) r488.1 r489 hcr489) (cwV 1 hts gX1_readWork_X1_readDrops rfl rfl rfl nd_X1_readDrops ⟨Nat.le_of_ble_eq_true rfl, Nat.le_of_ble_eq_true rfl⟩) (PB.preV (ci := 1) (q0 := 0) hKU hP hD [0, 2] rfl rfl rfl rfl) rfl rfl hl.1 rfl (lv_room (Nat.le_of_ble_eq_true rfl)) dX1_readWork_208 ⟨Nat.zero_le _, Nat.zero_le _⟩) hS hP hD hA [0, 2] rfl rfl (by first | (simp only [wset, List.set_cons_zero, List.set_cons_succ]; done) | rfl) rfl (fun H locs hP hD hS hzr489 => ?_)
      refine lv_if_eq (tgt := 218) hx hb dX1_readWork_211 (by decide) (fun c490 => ?_) (fun c490 => ?_)
      · have hsp := itT hsp c490
        refine lv_iconst (v := 0) hx hb dX1_readWork_218 (by decide) ?_
        have hres := Option.some.inj hsp
        subst hres
        exact W.zret (v := 0) hx hb hr (zE (Or.inl rfl)) (fun t ht hW => ⟨⟨0, (), rfl, ⟨rfl, (Or.inl rfl)⟩, P_at ht hP⟩, hS.F ht⟩) hS.2.2 dX1_readWork_219
      have hsp := itF hsp c490
      refine lv_iconst (v := 1) hx hb dX1_readWork_214 (by decide) ?_
      refine lv_goto (tgt := 219) hx hb dX1_readWork_215 (by decide) ?_
      have hres := Option.some.inj hsp
      subst hres
      exact W.zret (v := 1) hx hb hr (zE (Or.inr rfl)) (fun t ht hW => ⟨⟨1, (), rfl, ⟨rfl, (Or.inr rfl)⟩, P_at ht hP⟩, hS.F ht⟩) hS.2.2 dX1_readWork_219
    have hsp := itF hsp c483
    by_cases c491 : r2 = 112
    · have hsp := itT hsp c491
      refine lv_lookup (off := 120) (tgt := 220) hx hb dX1_readWork_100 (by decide) (by rw [c491]; decide) (by decide) ?_
      refine lv_aload_n hx hb dX1_readWork_220 rfl (lv_at hl 4 rfl) ?_
      refine lv_bipush (v := 6) hx hb dX1_readWork_221 (by decide) ?_
      obtain ⟨r492, hcr492, hsp⟩ := clE hsp
      refine call_z (w1 := [(a0, .inr (1, [.ref a1, .int g0_1, .int r492.2.1, .ref a2])), (a1, .inl (cI, 60, .inl f1)), (a2, .inr (3, [.int r472.1, .int r492.2.2, .int r472.2.2.1, .int r472.2.2.2.1, .ref a3]))]) (ws' := [(a0, .inr (1, [.ref a1, .int g0_1, .int r492.2.1, .ref a2])), (a1, .inl (cI, 60, .inl f1)), (a2, .inr (3, [.int r472.1, .int r492.2.2, .int r472.2.2.1, .int r472.2.2.2.1, .ref a3])), (a3, .inl (cI, 4, .inl r472.2.2.2.2))]) (va_runV (As := [.int 6]) (rest := []) ⟨hx, hb, hml, hown, hts⟩ (k_X1_readTarget l D cI cZ cC cS H.size a0 a1 a2 g0_1 x471 f1 (.int r472.1) r472.2.1 (.int r472.2.2.1) (.int r472.2.2.2.1) (.ref a3) 6 r492 hcr492) (cwV 1 hts gX1_readWork_X1_readTarget rfl rfl rfl nd_X1_readTarget ⟨Nat.le_of_ble_eq_true rfl, Nat.le_of_ble_eq_true rfl⟩) (PB.preV (ci := 1) (q0 := 0) hKU hP hD [0, 1, 2] rfl rfl rfl rfl) rfl rfl hl.1 rfl (lv_room (Nat.le_of_ble_eq_true rfl)) dX1_readWork_223 ⟨Nat.zero_le _, Nat.zero_le _⟩) hS hP hD hA [0, 1, 2] rfl rfl (by first | (simp only [wset, List.set_cons_zero, List.set_cons_succ]; done) | rfl) rfl (fun H locs hP hD hS hzr492 => ?_)
      have hres := Option.some.inj hsp
      subst hres
      exact W.zret (v := r492.1) hx hb hr (zE hzr492) (fun t ht hW => ⟨⟨r492.1, (), rfl, ⟨rfl, hzr492⟩, P_at ht hP⟩, hS.F ht⟩) hS.2.2 dX1_readWork_226
    have hsp := itF hsp c491
    refine lv_lookup (off := 127) (tgt := 227) hx hb dX1_readWork_100 (by decide) ((lv_osw c473 (by decide)).trans ((lv_osw c475 (by decide)).trans ((lv_osw c483 (by decide)).trans ((lv_osw c491 (by decide)).trans rfl)))) (by decide) ?_
    refine lv_iconst (v := 1) hx hb dX1_readWork_227 (by decide) ?_
    have hres := Option.some.inj hsp
    subst hres
    exact W.zret (v := 1) hx hb hr (zE (Or.inr rfl)) (fun t ht hW => ⟨⟨1, (), rfl, ⟨rfl, (Or.inr rfl)⟩, P_at ht hP⟩, hS.F ht⟩) hS.2.2 dX1_readWork_228
  have hsp := itF hsp c447
  refine lv_iload_n hx hb dX1_readWork_49 rfl (lv_at hl 1 rfl) ?_
  refine lv_bipush (v := 114) hx hb dX1_readWork_50 (by decide) ?_
  refine lv_icmp_ne (tgt := 59) hx hb dX1_readWork_52 (by decide) (fun c493 => ?_) (fun c493 => ?_)
  · have hsp := itF hsp c493
    refine lv_iconst (v := 0) hx hb dX1_readWork_59 (by decide) ?_
    refine lv_istore (lv' := [(4, .int 0), (3, .int 1), (2, .int r2), (1, .int r1.1), (0, .ref a0)]) hx hb dX1_readWork_60 hl (by decide) rfl (fun ls hl => ?_)
    refine lv_iload_n hx hb dX1_readWork_62 rfl (lv_at hl 3 rfl) ?_
    refine lv_if_lt (tgt := 73) hx hb dX1_readWork_63 (by decide) (fun c494 => ?_) (fun c494 => ?_)
    · have hsp := itT hsp c494
      refine lv_iload hx hb dX1_readWork_73 (lv_at hl 0 rfl) ?_
      refine lv_if_ne (tgt := 80) hx hb dX1_readWork_75 (by decide) (fun hc => absurd hc (by decide)) (fun _ => ?_)
      refine lv_iconst (v := 0) hx hb dX1_readWork_78 (by decide) ?_
      have hres := Option.some.inj hsp
      subst hres
      exact W.zret (v := 0) hx hb hr (zE (Or.inl rfl)) (fun t ht hW => ⟨⟨0, (), rfl, ⟨rfl, (Or.inl rfl)⟩, P_at ht hP⟩, hS.F ht⟩) hS.2.2 dX1_readWork_79
    have hsp := itF hsp c494
    refine lv_iload_n hx hb dX1_readWork_66 rfl (lv_at hl 1 rfl) ?_
    refine lv_if_ne (tgt := 80) hx hb dX1_readWork_67 (by decide) (fun _ => ?_) (fun hc => absurd hc (by decide))
    refine lv_aload_n hx hb dX1_readWork_80 rfl (lv_at hl 4 rfl) ?_
    refine lv_dup hx hb dX1_readWork_81 rfl ?_
    refine va_get (D := D) (ci := 1) (v := .int r1.2) (C := RX1) (T := TX1) (N := 4) hx hb hts hi_X1 hown hK hP 0 rfl rfl 2 (by decide) hf_19 (fun _ h9 => h9) rfl dX1_readWork_82 ?_
    refine lv_iconst (v := 1) hx hb dX1_readWork_85 (by decide) ?_
    refine lv_iadd hx hb dX1_readWork_86 ?_
    obtain ⟨x495, ex495, hsp⟩ := nmE hsp
    refine r_top ex495 ?_
    refine va_put (D := D) (ci := 1) (v := .int x495) (ty := .int) (C := RX1) (T := TX1) (N := 4) hx hb hts hi_X1 tyX1 tyX1_ok nmX1 hown hK hP hD hS 0 rfl rfl 2 (by decide) hf_19 (fun _ h9 => h9) rfl (by decide +kernel) rfl rfl (Nat.le_of_ble_eq_true rfl) dX1_readWork_87 (fun H locs hP hD hS => ?_)
    have hP : va_P D vwCl [(a0, .inr (1, [.ref a1, .int g0_1, .int x495, .ref a2])), (a1, .inl (cI, 60, .inl f1)), (a2, .inr (3, [.int g2_0, .int g2_1, .int g2_2, .int g2_3, .ref a3])), (a3, .inl (cI, 4, .inl f3))] H := hP
    have hD : va_D A [(a0, .inr (1, [.ref a1, .int g0_1, .int x495, .ref a2])), (a1, .inl (cI, 60, .inl f1)), (a2, .inr (3, [.int g2_0, .int g2_1, .int g2_2, .int g2_3, .ref a3])), (a3, .inl (cI, 4, .inl f3))] := hD
    refine lv_aload_n hx hb dX1_readWork_90 rfl (lv_at hl 4 rfl) ?_
    refine va_get (D := D) (ci := 1) (v := .ref a2) (C := RX1) (T := TX1) (N := 4) hx hb hts hi_X1 hown hK hP 0 rfl rfl 3 (by decide) hf_25 (fun _ h9 => h9) rfl dX1_readWork_91 ?_
    refine lv_iload_n hx hb dX1_readWork_94 rfl (lv_at hl 2 rfl) ?_
    refine lv_iload_n hx hb dX1_readWork_95 rfl (lv_at hl 3 rfl) ?_
    obtain ⟨r496, hcr496, hsp⟩ := clE hsp
    refine call_v (w1 := [(a2, .inr (3, [.int r496.1, .int r496.2.1, .int r496.2.2.1, .int r496.2.2.2.1, .ref a3])), (a3, .inl (cI, 4, .inl r496.2.2.2.2))]) (ws' := [(a0, .inr (1, [.ref a1, .int g0_1, .int x495, .ref a2])), (a1, .inl (cI, 60, .inl f1)), (a2, .inr (3, [.int r496.1, .int r496.2.1, .int r496.2.2.1, .int r496.2.2.2.1, .ref a3])), (a3, .inl (cI, 4, .inl r496.2.2.2.2))]) (va_runV (As := [.int r2, .int r1.1]) (rest := []) ⟨hx, hb, hml, hown, hts⟩ (k_X3_begin l D cI cZ cC cS H.size a2 a3 g2_0 g2_1 g2_2 g2_3 f3 r2 r1.1 r496 hcr496) (cwV 2 hts gX1_readWork_X3_begin rfl rfl rfl nd_X3_begin ⟨Nat.le_of_ble_eq_true rfl, Nat.le_of_ble_eq_true rfl⟩) (PB.preV (ci := 3) (q0 := 2) hKU hP hD [2, 3] rfl rfl rfl rfl) rfl rfl hl.1 rfl (lv_room (Nat.le_of_ble_eq_true rfl)) dX1_readWork_96 ⟨Nat.zero_le _, Nat.zero_le _⟩) hS hP hD hA [2, 3] rfl rfl (by first | (simp only [wset, List.set_cons_zero, List.set_cons_succ]; done) | rfl) rfl (fun H locs hP hD hS => ?_)
    refine lv_iload_n hx hb dX1_readWork_99 rfl (lv_at hl 2 rfl) ?_
    by_cases c497 : r2 = 43
    · have hsp := itT hsp c497
      refine lv_lookup (off := 44) (tgt := 144) hx hb dX1_readWork_100 (by decide) (by rw [c497]; decide) (by decide) ?_
      refine lv_aload_n hx hb dX1_readWork_144 rfl (lv_at hl 4 rfl) ?_
      obtain ⟨r498, hcr498, hsp⟩ := clE hsp
      refine call_z (w1 := [(a0, .inr (1, [.ref a1, .int g0_1, .int r498.2.1, .ref a2])), (a1, .inl (cI, 60, .inl f1)), (a2, .inr (3, [.int r496.1, .int r496.2.1, .int r496.2.2.1, .int r496.2.2.2.1, .ref a3])), (a3, .inl (cI, 4, .inl r498.2.2))]) (ws' := [(a0, .inr (1, [.ref a1, .int g0_1, .int r498.2.1, .ref a2])), (a1, .inl (cI, 60, .inl f1)), (a2, .inr (3, [.int r496.1, .int r496.2.1, .int r496.2.2.1, .int r496.2.2.2.1, .ref a3])), (a3, .inl (cI, 4, .inl r498.2.2))]) (va_runV (As := []) (rest := []) ⟨hx, hb, hml, hown, hts⟩ (k_X1_readKinds l D cI cZ cC cS H.size a0 a1 a2 a3 g0_1 x495 f1 (.int r496.1) (.int r496.2.1) (.int r496.2.2.1) (.int r496.2.2.2.1) r496.2.2.2.2 r498 hcr498) (cwV 0 hts gX1_readWork_X1_readKinds rfl rfl rfl nd_X1_readKinds ⟨Nat.le_of_ble_eq_true rfl, Nat.le_of_ble_eq_true rfl⟩) (PB.preV (ci := 1) (q0 := 0) hKU hP hD [0, 1, 2, 3] rfl rfl rfl rfl) rfl rfl hl.1 rfl (lv_room (Nat.le_of_ble_eq_true rfl)) dX1_readWork_145 ⟨Nat.zero_le _, Nat.zero_le _⟩) hS hP hD hA [0, 1, 2, 3] rfl rfl (by first | (simp only [wset, List.set_cons_zero, List.set_cons_succ]; done) | rfl) rfl (fun H locs hP hD hS hzr498 => ?_)
      have hres := Option.some.inj hsp
      subst hres
      exact W.zret (v := r498.1) hx hb hr (zE hzr498) (fun t ht hW => ⟨⟨r498.1, (), rfl, ⟨rfl, hzr498⟩, P_at ht hP⟩, hS.F ht⟩) hS.2.2 dX1_readWork_148
    have hsp := itF hsp c497
    by_cases c499 : r2 = 62
    · have hsp := itT hsp c499
      refine lv_lookup (off := 49) (tgt := 149) hx hb dX1_readWork_100 (by decide) (by rw [c499]; decide) (by decide) ?_
      refine lv_aload_n hx hb dX1_readWork_149 rfl (lv_at hl 4 rfl) ?_
      obtain ⟨r500, hcr500, hsp⟩ := clE hsp
      refine call_z (w1 := [(a0, .inr (1, [.ref a1, .int g0_1, .int r500.2.1, .ref a2])), (a1, .inl (cI, 60, .inl f1)), (a2, .inr (3, [.int r496.1, .int r496.2.1, .int r500.2.2, .int r496.2.2.2.1, .ref a3]))]) (ws' := [(a0, .inr (1, [.ref a1, .int g0_1, .int r500.2.1, .ref a2])), (a1, .inl (cI, 60, .inl f1)), (a2, .inr (3, [.int r496.1, .int r496.2.1, .int r500.2.2, .int r496.2.2.2.1, .ref a3])), (a3, .inl (cI, 4, .inl r496.2.2.2.2))]) (va_runV (As := []) (rest := []) ⟨hx, hb, hml, hown, hts⟩ (k_X1_readOther l D cI cZ cC cS H.size a0 a1 a2 g0_1 x495 f1 (.int r496.1) (.int r496.2.1) r496.2.2.1 (.int r496.2.2.2.1) (.ref a3) r500 hcr500) (cwV 0 hts gX1_readWork_X1_readOther rfl rfl rfl nd_X1_readOther ⟨Nat.le_of_ble_eq_true rfl, Nat.le_of_ble_eq_true rfl⟩) (PB.preV (ci := 1) (q0 := 0) hKU hP hD [0, 1, 2] rfl rfl rfl rfl) rfl rfl hl.1 rfl (lv_room (Nat.le_of_ble_eq_true rfl)) dX1_readWork_150 ⟨Nat.zero_le _, Nat.zero_le _⟩) hS hP hD hA [0, 1, 2] rfl rfl (by first | (simp only [wset, List.set_cons_zero, List.set_cons_succ]; done) | rfl) rfl (fun H locs hP hD hS hzr500 => ?_)
      refine lv_if_eq (tgt := 180) hx hb dX1_readWork_153 (by decide) (fun c501 => ?_) (fun c501 => ?_)
      · have hsp := itT hsp c501
        refine lv_iconst (v := 0) hx hb dX1_readWork_180 (by decide) ?_
        have hres := Option.some.inj hsp
        subst hres
        exact W.zret (v := 0) hx hb hr (zE (Or.inl rfl)) (fun t ht hW => ⟨⟨0, (), rfl, ⟨rfl, (Or.inl rfl)⟩, P_at ht hP⟩, hS.F ht⟩) hS.2.2 dX1_readWork_181
      have hsp := itF hsp c501
      refine lv_aload_n hx hb dX1_readWork_156 rfl (lv_at hl 4 rfl) ?_
      refine lv_bipush (v := 58) hx hb dX1_readWork_157 (by decide) ?_
      obtain ⟨r502, hcr502, hsp⟩ := clE hsp
      refine call_z (w1 := [(a0, .inr (1, [.ref a1, .int g0_1, .int r502.2, .ref a2])), (a1, .inl (cI, 60, .inl f1))]) (ws' := [(a0, .inr (1, [.ref a1, .int g0_1, .int r502.2, .ref a2])), (a1, .inl (cI, 60, .inl f1)), (a2, .inr (3, [.int r496.1, .int r496.2.1, .int r500.2.2, .int r496.2.2.2.1, .ref a3])), (a3, .inl (cI, 4, .inl r496.2.2.2.2))]) (va_runV (As := [.int 58]) (rest := []) ⟨hx, hb, hml, hown, hts⟩ (k_X1_readSign l D cI cZ cC cS H.size a0 a1 g0_1 r500.2.1 (.ref a2) f1 58 r502 hcr502) (cwV 1 hts gX1_readWork_X1_readSign rfl rfl rfl nd_X1_readSign ⟨Nat.le_of_ble_eq_true rfl, Nat.le_of_ble_eq_true rfl⟩) (PB.preV (ci := 1) (q0 := 0) hKU hP hD [0, 1] rfl rfl rfl rfl) rfl rfl hl.1 rfl (lv_room (Nat.le_of_ble_eq_true rfl)) dX1_readWork_159 ⟨Nat.zero_le _, Nat.zero_le _⟩) hS hP hD hA [0, 1] rfl rfl (by first | (simp only [wset, List.set_cons_zero, List.set_cons_succ]; done) | rfl) rfl (fun H locs hP hD hS hzr502 => ?_)
      refine lv_if_eq (tgt := 180) hx hb dX1_readWork_162 (by decide) (fun c503 => ?_) (fun c503 => ?_)
      · have hsp := itT hsp c503
        refine lv_iconst (v := 0) hx hb dX1_readWork_180 (by decide) ?_
        have hres := Option.some.inj hsp
        subst hres
        exact W.zret (v := 0) hx hb hr (zE (Or.inl rfl)) (fun t ht hW => ⟨⟨0, (), rfl, ⟨rfl, (Or.inl rfl)⟩, P_at ht hP⟩, hS.F ht⟩) hS.2.2 dX1_readWork_181
      have hsp := itF hsp c503
      refine lv_aload_n hx hb dX1_readWork_165 rfl (lv_at hl 4 rfl) ?_
      refine lv_aload_n hx hb dX1_readWork_166 rfl (lv_at hl 4 rfl) ?_
      obtain ⟨r504, hcr504, hsp⟩ := clE hsp
      refine call_i (w1 := [(a0, .inr (1, [.ref a1, .int g0_1, .int r504.2, .ref a2])), (a1, .inl (cI, 60, .inl f1))]) (ws' := [(a0, .inr (1, [.ref a1, .int g0_1, .int r504.2, .ref a2])), (a1, .inl (cI, 60, .inl f1)), (a2, .inr (3, [.int r496.1, .int r496.2.1, .int r500.2.2, .int r496.2.2.2.1, .ref a3])), (a3, .inl (cI, 4, .inl r496.2.2.2.2))]) (va_runV (As := []) (rest := [.ref a0]) ⟨hx, hb, hml, hown, hts⟩ (k_X1_readNumber l D cI cZ cC cS H.size a0 a1 g0_1 r502.2 (.ref a2) f1 r504 hcr504) (cwV 0 hts gX1_readWork_X1_readNumber rfl rfl rfl nd_X1_readNumber ⟨Nat.le_of_ble_eq_true rfl, Nat.le_of_ble_eq_true rfl⟩) (PB.preV (ci := 1) (q0 := 0) hKU hP hD [0, 1] rfl rfl rfl rfl) rfl rfl hl.1 rfl (lv_room (Nat.le_of_ble_eq_true rfl)) dX1_readWork_167 ⟨Nat.zero_le _, Nat.zero_le _⟩) hS hP hD hA [0, 1] rfl rfl (by first | (simp only [wset, List.set_cons_zero, List.set_cons_succ]; done) | rfl) rfl (fun H locs hP hD hS => ?_)
      obtain ⟨r505, hcr505, hsp⟩ := clE hsp
      refine call_z (w1 := [(a0, .inr (1, [.ref a1, .int g0_1, .int r504.2, .ref a2])), (a2, .inr (3, [.int r496.1, .int r496.2.1, .int r500.2.2, .int r505.2, .ref a3]))]) (ws' := [(a0, .inr (1, [.ref a1, .int g0_1, .int r504.2, .ref a2])), (a1, .inl (cI, 60, .inl f1)), (a2, .inr (3, [.int r496.1, .int r496.2.1, .int r500.2.2, .int r505.2, .ref a3])), (a3, .inl (cI, 4, .inl r496.2.2.2.2))]) (va_runV (As := [.int r504.1]) (rest := []) ⟨hx, hb, hml, hown, hts⟩ (k_X1_readDrops l D cI cZ cC cS H.size a0 a2 (.ref a1) (.int g0_1) (.int r504.2) (.int r496.1) (.int r496.2.1) (.int r500.2.2) r496.2.2.2.1 (.ref a3) r504.1 r505 hcr505) (cwV 1 hts gX1_readWork_X1_readDrops rfl rfl rfl nd_X1_readDrops ⟨Nat.le_of_ble_eq_true rfl, Nat.le_of_ble_eq_true rfl⟩) (PB.preV (ci := 1) (q0 := 0) hKU hP hD [0, 2] rfl rfl rfl rfl) rfl rfl hl.1 rfl (lv_room (Nat.le_of_ble_eq_true rfl)) dX1_readWork_170 ⟨Nat.zero_le _, Nat.zero_le _⟩) hS hP hD hA [0, 2] rfl rfl (by first | (simp only [wset, List.set_cons_zero, List.set_cons_succ]; done) | rfl) rfl (fun H locs hP hD hS hzr505 => ?_)
      refine lv_if_eq (tgt := 180) hx hb dX1_readWork_173 (by decide) (fun c506 => ?_) (fun c506 => ?_)
      · have hsp := itT hsp c506
        refine lv_iconst (v := 0) hx hb dX1_readWork_180 (by decide) ?_
        have hres := Option.some.inj hsp
        subst hres
        exact W.zret (v := 0) hx hb hr (zE (Or.inl rfl)) (fun t ht hW => ⟨⟨0, (), rfl, ⟨rfl, (Or.inl rfl)⟩, P_at ht hP⟩, hS.F ht⟩) hS.2.2 dX1_readWork_181
      have hsp := itF hsp c506
      refine lv_iconst (v := 1) hx hb dX1_readWork_176 (by decide) ?_
      refine lv_goto (tgt := 181) hx hb dX1_readWork_177 (by decide) ?_
      have hres := Option.some.inj hsp
      subst hres
      exact W.zret (v := 1) hx hb hr (zE (Or.inr rfl)) (fun t ht hW => ⟨⟨1, (), rfl, ⟨rfl, (Or.inr rfl)⟩, P_at ht hP⟩, hS.F ht⟩) hS.2.2 dX1_readWork_181
    have hsp := itF hsp c499
    by_cases c507 : r2 = 100
    · have hsp := itT hsp c507
      refine lv_lookup (off := 82) (tgt := 182) hx hb dX1_readWork_100 (by decide) (by rw [c507]; decide) (by decide) ?_
      refine lv_aload_n hx hb dX1_readWork_182 rfl (lv_at hl 4 rfl) ?_
      refine lv_bipush (v := 8) hx hb dX1_readWork_183 (by decide) ?_
      obtain ⟨r508, hcr508, hsp⟩ := clE hsp
      refine call_z (w1 := [(a0, .inr (1, [.ref a1, .int g0_1, .int r508.2.1, .ref a2])), (a1, .inl (cI, 60, .inl f1)), (a2, .inr (3, [.int r496.1, .int r508.2.2, .int r496.2.2.1, .int r496.2.2.2.1, .ref a3]))]) (ws' := [(a0, .inr (1, [.ref a1, .int g0_1, .int r508.2.1, .ref a2])), (a1, .inl (cI, 60, .inl f1)), (a2, .inr (3, [.int r496.1, .int r508.2.2, .int r496.2.2.1, .int r496.2.2.2.1, .ref a3])), (a3, .inl (cI, 4, .inl r496.2.2.2.2))]) (va_runV (As := [.int 8]) (rest := []) ⟨hx, hb, hml, hown, hts⟩ (k_X1_readTarget l D cI cZ cC cS H.size a0 a1 a2 g0_1 x495 f1 (.int r496.1) r496.2.1 (.int r496.2.2.1) (.int r496.2.2.2.1) (.ref a3) 8 r508 hcr508) (cwV 1 hts gX1_readWork_X1_readTarget rfl rfl rfl nd_X1_readTarget ⟨Nat.le_of_ble_eq_true rfl, Nat.le_of_ble_eq_true rfl⟩) (PB.preV (ci := 1) (q0 := 0) hKU hP hD [0, 1, 2] rfl rfl rfl rfl) rfl rfl hl.1 rfl (lv_room (Nat.le_of_ble_eq_true rfl)) dX1_readWork_185 ⟨Nat.zero_le _, Nat.zero_le _⟩) hS hP hD hA [0, 1, 2] rfl rfl (by first | (simp only [wset, List.set_cons_zero, List.set_cons_succ]; done) | rfl) rfl (fun H locs hP hD hS hzr508 => ?_)
      refine lv_if_eq (tgt := 218) hx hb dX1_readWork_188 (by decide) (fun c509 => ?_) (fun c509 => ?_)
      · have hsp := itT hsp c509
        refine lv_iconst (v := 0) hx hb dX1_readWork_218 (by decide) ?_
        have hres := Option.some.inj hsp
        subst hres
        exact W.zret (v := 0) hx hb hr (zE (Or.inl rfl)) (fun t ht hW => ⟨⟨0, (), rfl, ⟨rfl, (Or.inl rfl)⟩, P_at ht hP⟩, hS.F ht⟩) hS.2.2 dX1_readWork_219
      have hsp := itF hsp c509
      refine lv_aload_n hx hb dX1_readWork_191 rfl (lv_at hl 4 rfl) ?_
      refine lv_bipush (v := 58) hx hb dX1_readWork_192 (by decide) ?_
      obtain ⟨r510, hcr510, hsp⟩ := clE hsp
      refine call_z (w1 := [(a0, .inr (1, [.ref a1, .int g0_1, .int r510.2, .ref a2])), (a1, .inl (cI, 60, .inl f1))]) (ws' := [(a0, .inr (1, [.ref a1, .int g0_1, .int r510.2, .ref a2])), (a1, .inl (cI, 60, .inl f1)), (a2, .inr (3, [.int r496.1, .int r508.2.2, .int r496.2.2.1, .int r496.2.2.2.1, .ref a3])), (a3, .inl (cI, 4, .inl r496.2.2.2.2))]) (va_runV (As := [.int 58]) (rest := []) ⟨hx, hb, hml, hown, hts⟩ (k_X1_readSign l D cI cZ cC cS H.size a0 a1 g0_1 r508.2.1 (.ref a2) f1 58 r510 hcr510) (cwV 1 hts gX1_readWork_X1_readSign rfl rfl rfl nd_X1_readSign ⟨Nat.le_of_ble_eq_true rfl, Nat.le_of_ble_eq_true rfl⟩) (PB.preV (ci := 1) (q0 := 0) hKU hP hD [0, 1] rfl rfl rfl rfl) rfl rfl hl.1 rfl (lv_room (Nat.le_of_ble_eq_true rfl)) dX1_readWork_194 ⟨Nat.zero_le _, Nat.zero_le _⟩) hS hP hD hA [0, 1] rfl rfl (by first | (simp only [wset, List.set_cons_zero, List.set_cons_succ]; done) | rfl) rfl (fun H locs hP hD hS hzr510 => ?_)
      refine lv_if_eq (tgt := 218) hx hb dX1_readWork_197 (by decide) (fun c511 => ?_) (fun c511 => ?_)
      · have hsp := itT hsp c511
        refine lv_iconst (v := 0) hx hb dX1_readWork_218 (by decide) ?_
        have hres := Option.some.inj hsp
        subst hres
        exact W.zret (v := 0) hx hb hr (zE (Or.inl rfl)) (fun t ht hW => ⟨⟨0, (), rfl, ⟨rfl, (Or.inl rfl)⟩, P_at ht hP⟩, hS.F ht⟩) hS.2.2 dX1_readWork_219
      have hsp := itF hsp c511
      refine lv_aload_n hx hb dX1_readWork_200 rfl (lv_at hl 4 rfl) ?_
      refine lv_aload_n hx hb dX1_readWork_201 rfl (lv_at hl 4 rfl) ?_
      refine lv_iconst (v := 1) hx hb dX1_readWork_202 (by decide) ?_
      refine lv_bipush (v := 9) hx hb dX1_readWork_203 (by decide) ?_
      obtain ⟨r512, hcr512, hsp⟩ := clE hsp
      refine call_i (w1 := [(a0, .inr (1, [.ref a1, .int g0_1, .int r512.2, .ref a2])), (a1, .inl (cI, 60, .inl f1))]) (ws' := [(a0, .inr (1, [.ref a1, .int g0_1, .int r512.2, .ref a2])), (a1, .inl (cI, 60, .inl f1)), (a2, .inr (3, [.int r496.1, .int r508.2.2, .int r496.2.2.1, .int r496.2.2.2.1, .ref a3])), (a3, .inl (cI, 4, .inl r496.2.2.2.2))]) (va_runV (As := [.int 1, .int 9]) (rest := [.ref a0]) ⟨hx, hb, hml, hown, hts⟩ (k_X1_readDigit l D cI cZ cC cS H.size a0 a1 g0_1 r510.2 (.ref a2) f1 1 9 r512 hcr512) (cwV 2 hts gX1_readWork_X1_readDigit rfl rfl rfl nd_X1_readDigit ⟨Nat.le_of_ble_eq_true rfl, Nat.le_of_ble_eq_true rfl⟩) (PB.preV (ci := 1) (q0 := 0) hKU hP hD [0, 1] rfl rfl rfl rfl) rfl rfl hl.1 rfl (lv_room (Nat.le_of_ble_eq_true rfl)) dX1_readWork_205 ⟨Nat.zero_le _, Nat.zero_le _⟩) hS hP hD hA [0, 1] rfl rfl (by first | (simp only [wset, List.set_cons_zero, List.set_cons_succ]; done) | rfl) rfl (fun H locs hP hD hS => ?_)
      obtain ⟨r513, hcr513, hsp⟩ := clE hsp
      refine call_z (w1 := [(a0, .inr (1, [.ref a1, .int g0_1, .int r512.2, .ref a2])), (a2, .inr (3, [.int r496.1, .int r508.2.2, .int r496.2.2.1, .int r513.2, .ref a3]))]) (ws' := [(a0, .inr (1, [.ref a1, .int g0_1, .int r512.2, .ref a2])), (a1, .inl (cI, 60, .inl f1)), (a2, .inr (3, [.int r496.1, .int r508.2.2, .int r496.2.2.1, .int r513.2, .ref a3])), (a3, .inl (cI, 4, .inl r496.2.2.2.2))]) (va_runV (As := [.int r512.1]) (rest := []) ⟨hx, hb, hml, hown, hts⟩ (k_X1_readDrops l D cI cZ cC cS H.size a0 a2 (.ref a1) (.int g0_1) (.int r512.2) (.int r496.1) (.int r508.2.2) (.int r496.2.2.1) r496.2.2.2.1 (.ref a3) r512.1 r513 hcr513) (cwV 1 hts gX1_readWork_X1_readDrops rfl rfl rfl nd_X1_readDrops ⟨Nat.le_of_ble_eq_true rfl, Nat.le_of_ble_eq_true rfl⟩) (PB.preV (ci := 1) (q0 := 0) hKU hP hD [0, 2] rfl rfl rfl rfl) rfl rfl hl.1 rfl (lv_room (Nat.le_of_ble_eq_true rfl)) dX1_readWork_208 ⟨Nat.zero_le _, Nat.zero_le _⟩) hS hP hD hA [0, 2] rfl rfl (by first | (simp only [wset, List.set_cons_zero, List.set_cons_succ]; done) | rfl) rfl (fun H locs hP hD hS hzr513 => ?_)
      refine lv_if_eq (tgt := 218) hx hb dX1_readWork_211 (by decide) (fun c514 => ?_) (fun c514 => ?_)
      · have hsp := itT hsp c514
        refine lv_iconst (v := 0) hx hb dX1_readWork_218 (by decide) ?_
        have hres := Option.some.inj hsp
        subst hres
        exact W.zret (v := 0) hx hb hr (zE (Or.inl rfl)) (fun t ht hW => ⟨⟨0, (), rfl, ⟨rfl, (Or.inl rfl)⟩, P_at ht hP⟩, hS.F ht⟩) hS.2.2 dX1_readWork_219
      have hsp := itF hsp c514
      refine lv_iconst (v := 1) hx hb dX1_readWork_214 (by decide) ?_
      refine lv_goto (tgt := 219) hx hb dX1_readWork_215 (by decide) ?_
      have hres := Option.some.inj hsp
      subst hres
      exact W.zret (v := 1) hx hb hr (zE (Or.inr rfl)) (fun t ht hW => ⟨⟨1, (), rfl, ⟨rfl, (Or.inr rfl)⟩, P_at ht hP⟩, hS.F ht⟩) hS.2.2 dX1_readWork_219
    have hsp := itF hsp c507
    by_cases c515 : r2 = 112
    · have hsp := itT hsp c515
      refine lv_lookup (off := 120) (tgt := 220) hx hb dX1_readWork_100 (by decide) (by rw [c515]; decide) (by decide) ?_
      refine lv_aload_n hx hb dX1_readWork_220 rfl (lv_at hl 4 rfl) ?_
      refine lv_bipush (v := 6) hx hb dX1_readWork_221 (by decide) ?_
      obtain ⟨r516, hcr516, hsp⟩ := clE hsp
      refine call_z (w1 := [(a0, .inr (1, [.ref a1, .int g0_1, .int r516.2.1, .ref a2])), (a1, .inl (cI, 60, .inl f1)), (a2, .inr (3, [.int r496.1, .int r516.2.2, .int r496.2.2.1, .int r496.2.2.2.1, .ref a3]))]) (ws' := [(a0, .inr (1, [.ref a1, .int g0_1, .int r516.2.1, .ref a2])), (a1, .inl (cI, 60, .inl f1)), (a2, .inr (3, [.int r496.1, .int r516.2.2, .int r496.2.2.1, .int r496.2.2.2.1, .ref a3])), (a3, .inl (cI, 4, .inl r496.2.2.2.2))]) (va_runV (As := [.int 6]) (rest := []) ⟨hx, hb, hml, hown, hts⟩ (k_X1_readTarget l D cI cZ cC cS H.size a0 a1 a2 g0_1 x495 f1 (.int r496.1) r496.2.1 (.int r496.2.2.1) (.int r496.2.2.2.1) (.ref a3) 6 r516 hcr516) (cwV 1 hts gX1_readWork_X1_readTarget rfl rfl rfl nd_X1_readTarget ⟨Nat.le_of_ble_eq_true rfl, Nat.le_of_ble_eq_true rfl⟩) (PB.preV (ci := 1) (q0 := 0) hKU hP hD [0, 1, 2] rfl rfl rfl rfl) rfl rfl hl.1 rfl (lv_room (Nat.le_of_ble_eq_true rfl)) dX1_readWork_223 ⟨Nat.zero_le _, Nat.zero_le _⟩) hS hP hD hA [0, 1, 2] rfl rfl (by first | (simp only [wset, List.set_cons_zero, List.set_cons_succ]; done) | rfl) rfl (fun H locs hP hD hS hzr516 => ?_)
      have hres := Option.some.inj hsp
      subst hres
      exact W.zret (v := r516.1) hx hb hr (zE hzr516) (fun t ht hW => ⟨⟨r516.1, (), rfl, ⟨rfl, hzr516⟩, P_at ht hP⟩, hS.F ht⟩) hS.2.2 dX1_readWork_226
    have hsp := itF hsp c515
    refine lv_lookup (off := 127) (tgt := 227) hx hb dX1_readWork_100 (by decide) ((lv_osw c497 (by decide)).trans ((lv_osw c499 (by decide)).trans ((lv_osw c507 (by decide)).trans ((lv_osw c515 (by decide)).trans rfl)))) (by decide) ?_
    refine lv_iconst (v := 1) hx hb dX1_readWork_227 (by decide) ?_
    have hres := Option.some.inj hsp
    subst hres
    exact W.zret (v := 1) hx hb hr (zE (Or.inr rfl)) (fun t ht hW => ⟨⟨1, (), rfl, ⟨rfl, (Or.inr rfl)⟩, P_at ht hP⟩, hS.F ht⟩) hS.2.2 dX1_readWork_228
  have hsp := itT hsp c493
  refine lv_iconst (v := 1) hx hb dX1_readWork_55 (by decide) ?_
  refine lv_goto (tgt := 60) hx hb dX1_readWork_56 (by decide) ?_
  refine lv_istore (lv' := [(4, .int 1), (3, .int 1), (2, .int r2), (1, .int r1.1), (0, .ref a0)]) hx hb dX1_readWork_60 hl (by decide) rfl (fun ls hl => ?_)
  refine lv_iload_n hx hb dX1_readWork_62 rfl (lv_at hl 3 rfl) ?_
  refine lv_if_lt (tgt := 73) hx hb dX1_readWork_63 (by decide) (fun c517 => ?_) (fun c517 => ?_)
  · have hsp := itT hsp c517
    refine lv_iload hx hb dX1_readWork_73 (lv_at hl 0 rfl) ?_
    refine lv_if_ne (tgt := 80) hx hb dX1_readWork_75 (by decide) (fun _ => ?_) (fun hc => absurd hc (by decide))
    refine lv_aload_n hx hb dX1_readWork_80 rfl (lv_at hl 4 rfl) ?_
    refine lv_dup hx hb dX1_readWork_81 rfl ?_
    refine va_get (D := D) (ci := 1) (v := .int r1.2) (C := RX1) (T := TX1) (N := 4) hx hb hts hi_X1 hown hK hP 0 rfl rfl 2 (by decide) hf_19 (fun _ h9 => h9) rfl dX1_readWork_82 ?_
    refine lv_iconst (v := 1) hx hb dX1_readWork_85 (by decide) ?_
    refine lv_iadd hx hb dX1_readWork_86 ?_
    obtain ⟨x518, ex518, hsp⟩ := nmE hsp
    refine r_top ex518 ?_
    refine va_put (D := D) (ci := 1) (v := .int x518) (ty := .int) (C := RX1) (T := TX1) (N := 4) hx hb hts hi_X1 tyX1 tyX1_ok nmX1 hown hK hP hD hS 0 rfl rfl 2 (by decide) hf_19 (fun _ h9 => h9) rfl (by decide +kernel) rfl rfl (Nat.le_of_ble_eq_true rfl) dX1_readWork_87 (fun H locs hP hD hS => ?_)
    have hP : va_P D vwCl [(a0, .inr (1, [.ref a1, .int g0_1, .int x518, .ref a2])), (a1, .inl (cI, 60, .inl f1)), (a2, .inr (3, [.int g2_0, .int g2_1, .int g2_2, .int g2_3, .ref a3])), (a3, .inl (cI, 4, .inl f3))] H := hP
    have hD : va_D A [(a0, .inr (1, [.ref a1, .int g0_1, .int x518, .ref a2])), (a1, .inl (cI, 60, .inl f1)), (a2, .inr (3, [.int g2_0, .int g2_1, .int g2_2, .int g2_3, .ref a3])), (a3, .inl (cI, 4, .inl f3))] := hD
    refine lv_aload_n hx hb dX1_readWork_90 rfl (lv_at hl 4 rfl) ?_
    refine va_get (D := D) (ci := 1) (v := .ref a2) (C := RX1) (T := TX1) (N := 4) hx hb hts hi_X1 hown hK hP 0 rfl rfl 3 (by decide) hf_25 (fun _ h9 => h9) rfl dX1_readWork_91 ?_
    refine lv_iload_n hx hb dX1_readWork_94 rfl (lv_at hl 2 rfl) ?_
    refine lv_iload_n hx hb dX1_readWork_95 rfl (lv_at hl 3 rfl) ?_
    obtain ⟨r519, hcr519, hsp⟩ := clE hsp
    refine call_v (w1 := [(a2, .inr (3, [.int r519.1, .int r519.2.1, .int r519.2.2.1, .int r519.2.2.2.1, .ref a3])), (a3, .inl (cI, 4, .inl r519.2.2.2.2))]) (ws' := [(a0, .inr (1, [.ref a1, .int g0_1, .int x518, .ref a2])), (a1, .inl (cI, 60, .inl f1)), (a2, .inr (3, [.int r519.1, .int r519.2.1, .int r519.2.2.1, .int r519.2.2.2.1, .ref a3])), (a3, .inl (cI, 4, .inl r519.2.2.2.2))]) (va_runV (As := [.int r2, .int r1.1]) (rest := []) ⟨hx, hb, hml, hown, hts⟩ (k_X3_begin l D cI cZ cC cS H.size a2 a3 g2_0 g2_1 g2_2 g2_3 f3 r2 r1.1 r519 hcr519) (cwV 2 hts gX1_readWork_X3_begin rfl rfl rfl nd_X3_begin ⟨Nat.le_of_ble_eq_true rfl, Nat.le_of_ble_eq_true rfl⟩) (PB.preV (ci := 3) (q0 := 2) hKU hP hD [2, 3] rfl rfl rfl rfl) rfl rfl hl.1 rfl (lv_room (Nat.le_of_ble_eq_true rfl)) dX1_readWork_96 ⟨Nat.zero_le _, Nat.zero_le _⟩) hS hP hD hA [2, 3] rfl rfl (by first | (simp only [wset, List.set_cons_zero, List.set_cons_succ]; done) | rfl) rfl (fun H locs hP hD hS => ?_)
    refine lv_iload_n hx hb dX1_readWork_99 rfl (lv_at hl 2 rfl) ?_
    by_cases c520 : r2 = 43
    · have hsp := itT hsp c520
      refine lv_lookup (off := 44) (tgt := 144) hx hb dX1_readWork_100 (by decide) (by rw [c520]; decide) (by decide) ?_
      refine lv_aload_n hx hb dX1_readWork_144 rfl (lv_at hl 4 rfl) ?_
      obtain ⟨r521, hcr521, hsp⟩ := clE hsp
      refine call_z (w1 := [(a0, .inr (1, [.ref a1, .int g0_1, .int r521.2.1, .ref a2])), (a1, .inl (cI, 60, .inl f1)), (a2, .inr (3, [.int r519.1, .int r519.2.1, .int r519.2.2.1, .int r519.2.2.2.1, .ref a3])), (a3, .inl (cI, 4, .inl r521.2.2))]) (ws' := [(a0, .inr (1, [.ref a1, .int g0_1, .int r521.2.1, .ref a2])), (a1, .inl (cI, 60, .inl f1)), (a2, .inr (3, [.int r519.1, .int r519.2.1, .int r519.2.2.1, .int r519.2.2.2.1, .ref a3])), (a3, .inl (cI, 4, .inl r521.2.2))]) (va_runV (As := []) (rest := []) ⟨hx, hb, hml, hown, hts⟩ (k_X1_readKinds l D cI cZ cC cS H.size a0 a1 a2 a3 g0_1 x518 f1 (.int r519.1) (.int r519.2.1) (.int r519.2.2.1) (.int r519.2.2.2.1) r519.2.2.2.2 r521 hcr521) (cwV 0 hts gX1_readWork_X1_readKinds rfl rfl rfl nd_X1_readKinds ⟨Nat.le_of_ble_eq_true rfl, Nat.le_of_ble_eq_true rfl⟩) (PB.preV (ci := 1) (q0 := 0) hKU hP hD [0, 1, 2, 3] rfl rfl rfl rfl) rfl rfl hl.1 rfl (lv_room (Nat.le_of_ble_eq_true rfl)) dX1_readWork_145 ⟨Nat.zero_le _, Nat.zero_le _⟩) hS hP hD hA [0, 1, 2, 3] rfl rfl (by first | (simp only [wset, List.set_cons_zero, List.set_cons_succ]; done) | rfl) rfl (fun H locs hP hD hS hzr521 => ?_)
      have hres := Option.some.inj hsp
      subst hres
      exact W.zret (v := r521.1) hx hb hr (zE hzr521) (fun t ht hW => ⟨⟨r521.1, (), rfl, ⟨rfl, hzr521⟩, P_at ht hP⟩, hS.F ht⟩) hS.2.2 dX1_readWork_148
    have hsp := itF hsp c520
    by_cases c522 : r2 = 62
    · have hsp := itT hsp c522
      refine lv_lookup (off := 49) (tgt := 149) hx hb dX1_readWork_100 (by decide) (by rw [c522]; decide) (by decide) ?_
      refine lv_aload_n hx hb dX1_readWork_149 rfl (lv_at hl 4 rfl) ?_
      obtain ⟨r523, hcr523, hsp⟩ := clE hsp
      refine call_z (w1 := [(a0, .inr (1, [.ref a1, .int g0_1, .int r523.2.1, .ref a2])), (a1, .inl (cI, 60, .inl f1)), (a2, .inr (3, [.int r519.1, .int r519.2.1, .int r523.2.2, .int r519.2.2.2.1, .ref a3]))]) (ws' := [(a0, .inr (1, [.ref a1, .int g0_1, .int r523.2.1, .ref a2])), (a1, .inl (cI, 60, .inl f1)), (a2, .inr (3, [.int r519.1, .int r519.2.1, .int r523.2.2, .int r519.2.2.2.1, .ref a3])), (a3, .inl (cI, 4, .inl r519.2.2.2.2))]) (va_runV (As := []) (rest := []) ⟨hx, hb, hml, hown, hts⟩ (k_X1_readOther l D cI cZ cC cS H.size a0 a1 a2 g0_1 x518 f1 (.int r519.1) (.int r519.2.1) r519.2.2.1 (.int r519.2.2.2.1) (.ref a3) r523 hcr523) (cwV 0 hts gX1_readWork_X1_readOther rfl rfl rfl nd_X1_readOther ⟨Nat.le_of_ble_eq_true rfl, Nat.le_of_ble_eq_true rfl⟩) (PB.preV (ci := 1) (q0 := 0) hKU hP hD [0, 1, 2] rfl rfl rfl rfl) rfl rfl hl.1 rfl (lv_room (Nat.le_of_ble_eq_true rfl)) dX1_readWork_150 ⟨Nat.zero_le _, Nat.zero_le _⟩) hS hP hD hA [0, 1, 2] rfl rfl (by first | (simp only [wset, List.set_cons_zero, List.set_cons_succ]; done) | rfl) rfl (fun H locs hP hD hS hzr523 => ?_)
      refine lv_if_eq (tgt := 180) hx hb dX1_readWork_153 (by decide) (fun c524 => ?_) (fun c524 => ?_)
      · have hsp := itT hsp c524
        refine lv_iconst (v := 0) hx hb dX1_readWork_180 (by decide) ?_
        have hres := Option.some.inj hsp
        subst hres
        exact W.zret (v := 0) hx hb hr (zE (Or.inl rfl)) (fun t ht hW => ⟨⟨0, (), rfl, ⟨rfl, (Or.inl rfl)⟩, P_at ht hP⟩, hS.F ht⟩) hS.2.2 dX1_readWork_181
      have hsp := itF hsp c524
      refine lv_aload_n hx hb dX1_readWork_156 rfl (lv_at hl 4 rfl) ?_
      refine lv_bipush (v := 58) hx hb dX1_readWork_157 (by decide) ?_
      obtain ⟨r525, hcr525, hsp⟩ := clE hsp
      refine call_z (w1 := [(a0, .inr (1, [.ref a1, .int g0_1, .int r525.2, .ref a2])), (a1, .inl (cI, 60, .inl f1))]) (ws' := [(a0, .inr (1, [.ref a1, .int g0_1, .int r525.2, .ref a2])), (a1, .inl (cI, 60, .inl f1)), (a2, .inr (3, [.int r519.1, .int r519.2.1, .int r523.2.2, .int r519.2.2.2.1, .ref a3])), (a3, .inl (cI, 4, .inl r519.2.2.2.2))]) (va_runV (As := [.int 58]) (rest := []) ⟨hx, hb, hml, hown, hts⟩ (k_X1_readSign l D cI cZ cC cS H.size a0 a1 g0_1 r523.2.1 (.ref a2) f1 58 r525 hcr525) (cwV 1 hts gX1_readWork_X1_readSign rfl rfl rfl nd_X1_readSign ⟨Nat.le_of_ble_eq_true rfl, Nat.le_of_ble_eq_true rfl⟩) (PB.preV (ci := 1) (q0 := 0) hKU hP hD [0, 1] rfl rfl rfl rfl) rfl rfl hl.1 rfl (lv_room (Nat.le_of_ble_eq_true rfl)) dX1_readWork_159 ⟨Nat.zero_le _, Nat.zero_le _⟩) hS hP hD hA [0, 1] rfl rfl (by first | (simp only [wset, List.set_cons_zero, List.set_cons_succ]; done) | rfl) rfl (fun H locs hP hD hS hzr525 => ?_)
      refine lv_if_eq (tgt := 180) hx hb dX1_readWork_162 (by decide) (fun c526 => ?_) (fun c526 => ?_)
      · have hsp := itT hsp c526
        refine lv_iconst (v := 0) hx hb dX1_readWork_180 (by decide) ?_
        have hres := Option.some.inj hsp
        subst hres
        exact W.zret (v := 0) hx hb hr (zE (Or.inl rfl)) (fun t ht hW => ⟨⟨0, (), rfl, ⟨rfl, (Or.inl rfl)⟩, P_at ht hP⟩, hS.F ht⟩) hS.2.2 dX1_readWork_181
      have hsp := itF hsp c526
      refine lv_aload_n hx hb dX1_readWork_165 rfl (lv_at hl 4 rfl) ?_
      refine lv_aload_n hx hb dX1_readWork_166 rfl (lv_at hl 4 rfl) ?_
      obtain ⟨r527, hcr527, hsp⟩ := clE hsp
      refine call_i (w1 := [(a0, .inr (1, [.ref a1, .int g0_1, .int r527.2, .ref a2])), (a1, .inl (cI, 60, .inl f1))]) (ws' := [(a0, .inr (1, [.ref a1, .int g0_1, .int r527.2, .ref a2])), (a1, .inl (cI, 60, .inl f1)), (a2, .inr (3, [.int r519.1, .int r519.2.1, .int r523.2.2, .int r519.2.2.2.1, .ref a3])), (a3, .inl (cI, 4, .inl r519.2.2.2.2))]) (va_runV (As := []) (rest := [.ref a0]) ⟨hx, hb, hml, hown, hts⟩ (k_X1_readNumber l D cI cZ cC cS H.size a0 a1 g0_1 r525.2 (.ref a2) f1 r527 hcr527) (cwV 0 hts gX1_readWork_X1_readNumber rfl rfl rfl nd_X1_readNumber ⟨Nat.le_of_ble_eq_true rfl, Nat.le_of_ble_eq_true rfl⟩) (PB.preV (ci := 1) (q0 := 0) hKU hP hD [0, 1] rfl rfl rfl rfl) rfl rfl hl.1 rfl (lv_room (Nat.le_of_ble_eq_true rfl)) dX1_readWork_167 ⟨Nat.zero_le _, Nat.zero_le _⟩) hS hP hD hA [0, 1] rfl rfl (by first | (simp only [wset, List.set_cons_zero, List.set_cons_succ]; done) | rfl) rfl (fun H locs hP hD hS => ?_)
      obtain ⟨r528, hcr528, hsp⟩ := clE hsp
      refine call_z (w1 := [(a0, .inr (1, [.ref a1, .int g0_1, .int r527.2, .ref a2])), (a2, .inr (3, [.int r519.1, .int r519.2.1, .int r523.2.2, .int r528.2, .ref a3]))]) (ws' := [(a0, .inr (1, [.ref a1, .int g0_1, .int r527.2, .ref a2])), (a1, .inl (cI, 60, .inl f1)), (a2, .inr (3, [.int r519.1, .int r519.2.1, .int r523.2.2, .int r528.2, .ref a3])), (a3, .inl (cI, 4, .inl r519.2.2.2.2))]) (va_runV (As := [.int r527.1]) (rest := []) ⟨hx, hb, hml, hown, hts⟩ (k_X1_readDrops l D cI cZ cC cS H.size a0 a2 (.ref a1) (.int g0_1) (.int r527.2) (.int r519.1) (.int r519.2.1) (.int r523.2.2) r519.2.2.2.1 (.ref a3) r527.1 r528 hcr528) (cwV 1 hts gX1_readWork_X1_readDrops rfl rfl rfl nd_X1_readDrops ⟨Nat.le_of_ble_eq_true rfl, Nat.le_of_ble_eq_true rfl⟩) (PB.preV (ci := 1) (q0 := 0) hKU hP hD [0, 2] rfl rfl rfl rfl) rfl rfl hl.1 rfl (lv_room (Nat.le_of_ble_eq_true rfl)) dX1_readWork_170 ⟨Nat.zero_le _, Nat.zero_le _⟩) hS hP hD hA [0, 2] rfl rfl (by first | (simp only [wset, List.set_cons_zero, List.set_cons_succ]; done) | rfl) rfl (fun H locs hP hD hS hzr528 => ?_)
      refine lv_if_eq (tgt := 180) hx hb dX1_readWork_173 (by decide) (fun c529 => ?_) (fun c529 => ?_)
      · have hsp := itT hsp c529
        refine lv_iconst (v := 0) hx hb dX1_readWork_180 (by decide) ?_
        have hres := Option.some.inj hsp
        subst hres
        exact W.zret (v := 0) hx hb hr (zE (Or.inl rfl)) (fun t ht hW => ⟨⟨0, (), rfl, ⟨rfl, (Or.inl rfl)⟩, P_at ht hP⟩, hS.F ht⟩) hS.2.2 dX1_readWork_181
      have hsp := itF hsp c529
      refine lv_iconst (v := 1) hx hb dX1_readWork_176 (by decide) ?_
      refine lv_goto (tgt := 181) hx hb dX1_readWork_177 (by decide) ?_
      have hres := Option.some.inj hsp
      subst hres
      exact W.zret (v := 1) hx hb hr (zE (Or.inr rfl)) (fun t ht hW => ⟨⟨1, (), rfl, ⟨rfl, (Or.inr rfl)⟩, P_at ht hP⟩, hS.F ht⟩) hS.2.2 dX1_readWork_181
    have hsp := itF hsp c522
    by_cases c530 : r2 = 100
    · have hsp := itT hsp c530
      refine lv_lookup (off := 82) (tgt := 182) hx hb dX1_readWork_100 (by decide) (by rw [c530]; decide) (by decide) ?_
      refine lv_aload_n hx hb dX1_readWork_182 rfl (lv_at hl 4 rfl) ?_
      refine lv_bipush (v := 8) hx hb dX1_readWork_183 (by decide) ?_
      obtain ⟨r531, hcr531, hsp⟩ := clE hsp
      refine call_z (w1 := [(a0, .inr (1, [.ref a1, .int g0_1, .int r531.2.1, .ref a2])), (a1, .inl (cI, 60, .inl f1)), (a2, .inr (3, [.int r519.1, .int r531.2.2, .int r519.2.2.1, .int r519.2.2.2.1, .ref a3]))]) (ws' := [(a0, .inr (1, [.ref a1, .int g0_1, .int r531.2.1, .ref a2])), (a1, .inl (cI, 60, .inl f1)), (a2, .inr (3, [.int r519.1, .int r531.2.2, .int r519.2.2.1, .int r519.2.2.2.1, .ref a3])), (a3, .inl (cI, 4, .inl r519.2.2.2.2))]) (va_runV (As := [.int 8]) (rest := []) ⟨hx, hb, hml, hown, hts⟩ (k_X1_readTarget l D cI cZ cC cS H.size a0 a1 a2 g0_1 x518 f1 (.int r519.1) r519.2.1 (.int r519.2.2.1) (.int r519.2.2.2.1) (.ref a3) 8 r531 hcr531) (cwV 1 hts gX1_readWork_X1_readTarget rfl rfl rfl nd_X1_readTarget ⟨Nat.le_of_ble_eq_true rfl, Nat.le_of_ble_eq_true rfl⟩) (PB.preV (ci := 1) (q0 := 0) hKU hP hD [0, 1, 2] rfl rfl rfl rfl) rfl rfl hl.1 rfl (lv_room (Nat.le_of_ble_eq_true rfl)) dX1_readWork_185 ⟨Nat.zero_le _, Nat.zero_le _⟩) hS hP hD hA [0, 1, 2] rfl rfl (by first | (simp only [wset, List.set_cons_zero, List.set_cons_succ]; done) | rfl) rfl (fun H locs hP hD hS hzr531 => ?_)
      refine lv_if_eq (tgt := 218) hx hb dX1_readWork_188 (by decide) (fun c532 => ?_) (fun c532 => ?_)
      · have hsp := itT hsp c532
        refine lv_iconst (v := 0) hx hb dX1_readWork_218 (by decide) ?_
        have hres := Option.some.inj hsp
        subst hres
        exact W.zret (v := 0) hx hb hr (zE (Or.inl rfl)) (fun t ht hW => ⟨⟨0, (), rfl, ⟨rfl, (Or.inl rfl)⟩, P_at ht hP⟩, hS.F ht⟩) hS.2.2 dX1_readWork_219
      have hsp := itF hsp c532
      refine lv_aload_n hx hb dX1_readWork_191 rfl (lv_at hl 4 rfl) ?_
      refine lv_bipush (v := 58) hx hb dX1_readWork_192 (by decide) ?_
      obtain ⟨r533, hcr533, hsp⟩ := clE hsp
      refine call_z (w1 := [(a0, .inr (1, [.ref a1, .int g0_1, .int r533.2, .ref a2])), (a1, .inl (cI, 60, .inl f1))]) (ws' := [(a0, .inr (1, [.ref a1, .int g0_1, .int r533.2, .ref a2])), (a1, .inl (cI, 60, .inl f1)), (a2, .inr (3, [.int r519.1, .int r531.2.2, .int r519.2.2.1, .int r519.2.2.2.1, .ref a3])), (a3, .inl (cI, 4, .inl r519.2.2.2.2))]) (va_runV (As := [.int 58]) (rest := []) ⟨hx, hb, hml, hown, hts⟩ (k_X1_readSign l D cI cZ cC cS H.size a0 a1 g0_1 r531.2.1 (.ref a2) f1 58 r533 hcr533) (cwV 1 hts gX1_readWork_X1_readSign rfl rfl rfl nd_X1_readSign ⟨Nat.le_of_ble_eq_true rfl, Nat.le_of_ble_eq_true rfl⟩) (PB.preV (ci := 1) (q0 := 0) hKU hP hD [0, 1] rfl rfl rfl rfl) rfl rfl hl.1 rfl (lv_room (Nat.le_of_ble_eq_true rfl)) dX1_readWork_194 ⟨Nat.zero_le _, Nat.zero_le _⟩) hS hP hD hA [0, 1] rfl rfl (by first | (simp only [wset, List.set_cons_zero, List.set_cons_succ]; done) | rfl) rfl (fun H locs hP hD hS hzr533 => ?_)
      refine lv_if_eq (tgt := 218) hx hb dX1_readWork_197 (by decide) (fun c534 => ?_) (fun c534 => ?_)
      · have hsp := itT hsp c534
        refine lv_iconst (v := 0) hx hb dX1_readWork_218 (by decide) ?_
        have hres := Option.some.inj hsp
        subst hres
        exact W.zret (v := 0) hx hb hr (zE (Or.inl rfl)) (fun t ht hW => ⟨⟨0, (), rfl, ⟨rfl, (Or.inl rfl)⟩, P_at ht hP⟩, hS.F ht⟩) hS.2.2 dX1_readWork_219
      have hsp := itF hsp c534
      refine lv_aload_n hx hb dX1_readWork_200 rfl (lv_at hl 4 rfl) ?_
      refine lv_aload_n hx hb dX1_readWork_201 rfl (lv_at hl 4 rfl) ?_
      refine lv_iconst (v := 1) hx hb dX1_readWork_202 (by decide) ?_
      refine lv_bipush (v := 9) hx hb dX1_readWork_203 (by decide) ?_
      obtain ⟨r535, hcr535, hsp⟩ := clE hsp
      refine call_i (w1 := [(a0, .inr (1, [.ref a1, .int g0_1, .int r535.2, .ref a2])), (a1, .inl (cI, 60, .inl f1))]) (ws' := [(a0, .inr (1, [.ref a1, .int g0_1, .int r535.2, .ref a2])), (a1, .inl (cI, 60, .inl f1)), (a2, .inr (3, [.int r519.1, .int r531.2.2, .int r519.2.2.1, .int r519.2.2.2.1, .ref a3])), (a3, .inl (cI, 4, .inl r519.2.2.2.2))]) (va_runV (As := [.int 1, .int 9]) (rest := [.ref a0]) ⟨hx, hb, hml, hown, hts⟩ (k_X1_readDigit l D cI cZ cC cS H.size a0 a1 g0_1 r533.2 (.ref a2) f1 1 9 r535 hcr535) (cwV 2 hts gX1_readWork_X1_readDigit rfl rfl rfl nd_X1_readDigit ⟨Nat.le_of_ble_eq_true rfl, Nat.le_of_ble_eq_true rfl⟩) (PB.preV (ci := 1) (q0 := 0) hKU hP hD [0, 1] rfl rfl rfl rfl) rfl rfl hl.1 rfl (lv_room (Nat.le_of_ble_eq_true rfl)) dX1_readWork_205 ⟨Nat.zero_le _, Nat.zero_le _⟩) hS hP hD hA [0, 1] rfl rfl (by first | (simp only [wset, List.set_cons_zero, List.set_cons_succ]; done) | rfl) rfl (fun H locs hP hD hS => ?_)
      obtain ⟨r536, hcr536, hsp⟩ := clE hsp
      refine call_z (w1 := [(a0, .inr (1, [.ref a1, .int g0_1, .int r535.2, .ref a2])), (a2, .inr (3, [.int r519.1, .int r531.2.2, .int r519.2.2.1, .int r536.2, .ref a3]))]) (ws' := [(a0, .inr (1, [.ref a1, .int g0_1, .int r535.2, .ref a2])), (a1, .inl (cI, 60, .inl f1)), (a2, .inr (3, [.int r519.1, .int r531.2.2, .int r519.2.2.1, .int r536.2, .ref a3])), (a3, .inl (cI, 4, .inl r519.2.2.2.2))]) (va_runV (As := [.int r535.1]) (rest := []) ⟨hx, hb, hml, hown, hts⟩ (k_X1_readDrops l D cI cZ cC cS H.size a0 a2 (.ref a1) (.int g0_1) (.int r535.2) (.int r519.1) (.int r531.2.2) (.int r519.2.2.1) r519.2.2.2.1 (.ref a3) r535.1 r536 hcr536) (cwV 1 hts gX1_readWork_X1_readDrops rfl rfl rfl nd_X1_readDrops ⟨Nat.le_of_ble_eq_true rfl, Nat.le_of_ble_eq_true rfl⟩) (PB.preV (ci := 1) (q0 := 0) hKU hP hD [0, 2] rfl rfl rfl rfl) rfl rfl hl.1 rfl (lv_room (Nat.le_of_ble_eq_true rfl)) dX1_readWork_208 ⟨Nat.zero_le _, Nat.zero_le _⟩) hS hP hD hA [0, 2] rfl rfl (by first | (simp only [wset, List.set_cons_zero, List.set_cons_succ]; done) | rfl) rfl (fun H locs hP hD hS hzr536 => ?_)
      refine lv_if_eq (tgt := 218) hx hb dX1_readWork_211 (by decide) (fun c537 => ?_) (fun c537 => ?_)
      · have hsp := itT hsp c537
        refine lv_iconst (v := 0) hx hb dX1_readWork_218 (by decide) ?_
        have hres := Option.some.inj hsp
        subst hres
        exact W.zret (v := 0) hx hb hr (zE (Or.inl rfl)) (fun t ht hW => ⟨⟨0, (), rfl, ⟨rfl, (Or.inl rfl)⟩, P_at ht hP⟩, hS.F ht⟩) hS.2.2 dX1_readWork_219
      have hsp := itF hsp c537
      refine lv_iconst (v := 1) hx hb dX1_readWork_214 (by decide) ?_
      refine lv_goto (tgt := 219) hx hb dX1_readWork_215 (by decide) ?_
      have hres := Option.some.inj hsp
      subst hres
      exact W.zret (v := 1) hx hb hr (zE (Or.inr rfl)) (fun t ht hW => ⟨⟨1, (), rfl, ⟨rfl, (Or.inr rfl)⟩, P_at ht hP⟩, hS.F ht⟩) hS.2.2 dX1_readWork_219
    have hsp := itF hsp c530
    by_cases c538 : r2 = 112
    · have hsp := itT hsp c538
      refine lv_lookup (off := 120) (tgt := 220) hx hb dX1_readWork_100 (by decide) (by rw [c538]; decide) (by decide) ?_
      refine lv_aload_n hx hb dX1_readWork_220 rfl (lv_at hl 4 rfl) ?_
      refine lv_bipush (v := 6) hx hb dX1_readWork_221 (by decide) ?_
      obtain ⟨r539, hcr539, hsp⟩ := clE hsp
      refine call_z (w1 := [(a0, .inr (1, [.ref a1, .int g0_1, .int r539.2.1, .ref a2])), (a1, .inl (cI, 60, .inl f1)), (a2, .inr (3, [.int r519.1, .int r539.2.2, .int r519.2.2.1, .int r519.2.2.2.1, .ref a3]))]) (ws' := [(a0, .inr (1, [.ref a1, .int g0_1, .int r539.2.1, .ref a2])), (a1, .inl (cI, 60, .inl f1)), (a2, .inr (3, [.int r519.1, .int r539.2.2, .int r519.2.2.1, .int r519.2.2.2.1, .ref a3])), (a3, .inl (cI, 4, .inl r519.2.2.2.2))]) (va_runV (As := [.int 6]) (rest := []) ⟨hx, hb, hml, hown, hts⟩ (k_X1_readTarget l D cI cZ cC cS H.size a0 a1 a2 g0_1 x518 f1 (.int r519.1) r519.2.1 (.int r519.2.2.1) (.int r519.2.2.2.1) (.ref a3) 6 r539 hcr539) (cwV 1 hts gX1_readWork_X1_readTarget rfl rfl rfl nd_X1_readTarget ⟨Nat.le_of_ble_eq_true rfl, Nat.le_of_ble_eq_true rfl⟩) (PB.preV (ci := 1) (q0 := 0) hKU hP hD [0, 1, 2] rfl rfl rfl rfl) rfl rfl hl.1 rfl (lv_room (Nat.le_of_ble_eq_true rfl)) dX1_readWork_223 ⟨Nat.zero_le _, Nat.zero_le _⟩) hS hP hD hA [0, 1, 2] rfl rfl (by first | (simp only [wset, List.set_cons_zero, List.set_cons_succ]; done) | rfl) rfl (fun H locs hP hD hS hzr539 => ?_)
      have hres := Option.some.inj hsp
      subst hres
      exact W.zret (v := r539.1) hx hb hr (zE hzr539) (fun t ht hW => ⟨⟨r539.1, (), rfl, ⟨rfl, hzr539⟩, P_at ht hP⟩, hS.F ht⟩) hS.2.2 dX1_readWork_226
    have hsp := itF hsp c538
    refine lv_lookup (off := 127) (tgt := 227) hx hb dX1_readWork_100 (by decide) ((lv_osw c520 (by decide)).trans ((lv_osw c522 (by decide)).trans ((lv_osw c530 (by decide)).trans ((lv_osw c538 (by decide)).trans rfl)))) (by decide) ?_
    refine lv_iconst (v := 1) hx hb dX1_readWork_227 (by decide) ?_
    have hres := Option.some.inj hsp
    subst hres
    exact W.zret (v := 1) hx hb hr (zE (Or.inr rfl)) (fun t ht hW => ⟨⟨1, (), rfl, ⟨rfl, (Or.inr rfl)⟩, P_at ht hP⟩, hS.F ht⟩) hS.2.2 dX1_readWork_228
  have hsp := itF hsp c517
  refine lv_iload_n hx hb dX1_readWork_66 rfl (lv_at hl 1 rfl) ?_
  refine lv_if_ne (tgt := 80) hx hb dX1_readWork_67 (by decide) (fun _ => ?_) (fun hc => absurd hc (by decide))
  refine lv_aload_n hx hb dX1_readWork_80 rfl (lv_at hl 4 rfl) ?_
  refine lv_dup hx hb dX1_readWork_81 rfl ?_
  refine va_get (D := D) (ci := 1) (v := .int r1.2) (C := RX1) (T := TX1) (N := 4) hx hb hts hi_X1 hown hK hP 0 rfl rfl 2 (by decide) hf_19 (fun _ h9 => h9) rfl dX1_readWork_82 ?_
  refine lv_iconst (v := 1) hx hb dX1_readWork_85 (by decide) ?_
  refine lv_iadd hx hb dX1_readWork_86 ?_
  obtain ⟨x540, ex540, hsp⟩ := nmE hsp
  refine r_top ex540 ?_
  refine va_put (D := D) (ci := 1) (v := .int x540) (ty := .int) (C := RX1) (T := TX1) (N := 4) hx hb hts hi_X1 tyX1 tyX1_ok nmX1 hown hK hP hD hS 0 rfl rfl 2 (by decide) hf_19 (fun _ h9 => h9) rfl (by decide +kernel) rfl rfl (Nat.le_of_ble_eq_true rfl) dX1_readWork_87 (fun H locs hP hD hS => ?_)
  have hP : va_P D vwCl [(a0, .inr (1, [.ref a1, .int g0_1, .int x540, .ref a2])), (a1, .inl (cI, 60, .inl f1)), (a2, .inr (3, [.int g2_0, .int g2_1, .int g2_2, .int g2_3, .ref a3])), (a3, .inl (cI, 4, .inl f3))] H := hP
  have hD : va_D A [(a0, .inr (1, [.ref a1, .int g0_1, .int x540, .ref a2])), (a1, .inl (cI, 60, .inl f1)), (a2, .inr (3, [.int g2_0, .int g2_1, .int g2_2, .int g2_3, .ref a3])), (a3, .inl (cI, 4, .inl f3))] := hD
  refine lv_aload_n hx hb dX1_readWork_90 rfl (lv_at hl 4 rfl) ?_
  refine va_get (D := D) (ci := 1) (v := .ref a2) (C := RX1) (T := TX1) (N := 4) hx hb hts hi_X1 hown hK hP 0 rfl rfl 3 (by decide) hf_25 (fun _ h9 => h9) rfl dX1_readWork_91 ?_
  refine lv_iload_n hx hb dX1_readWork_94 rfl (lv_at hl 2 rfl) ?_
  refine lv_iload_n hx hb dX1_readWork_95 rfl (lv_at hl 3 rfl) ?_
  obtain ⟨r541, hcr541, hsp⟩ := clE hsp
  refine call_v (w1 := [(a2, .inr (3, [.int r541.1, .int r541.2.1, .int r541.2.2.1, .int r541.2.2.2.1, .ref a3])), (a3, .inl (cI, 4, .inl r541.2.2.2.2))]) (ws' := [(a0, .inr (1, [.ref a1, .int g0_1, .int x540, .ref a2])), (a1, .inl (cI, 60, .inl f1)), (a2, .inr (3, [.int r541.1, .int r541.2.1, .int r541.2.2.1, .int r541.2.2.2.1, .ref a3])), (a3, .inl (cI, 4, .inl r541.2.2.2.2))]) (va_runV (As := [.int r2, .int r1.1]) (rest := []) ⟨hx, hb, hml, hown, hts⟩ (k_X3_begin l D cI cZ cC cS H.size a2 a3 g2_0 g2_1 g2_2 g2_3 f3 r2 r1.1 r541 hcr541) (cwV 2 hts gX1_readWork_X3_begin rfl rfl rfl nd_X3_begin ⟨Nat.le_of_ble_eq_true rfl, Nat.le_of_ble_eq_true rfl⟩) (PB.preV (ci := 3) (q0 := 2) hKU hP hD [2, 3] rfl rfl rfl rfl) rfl rfl hl.1 rfl (lv_room (Nat.le_of_ble_eq_true rfl)) dX1_readWork_96 ⟨Nat.zero_le _, Nat.zero_le _⟩) hS hP hD hA [2, 3] rfl rfl (by first | (simp only [wset, List.set_cons_zero, List.set_cons_succ]; done) | rfl) rfl (fun H locs hP hD hS => ?_)
  refine lv_iload_n hx hb dX1_readWork_99 rfl (lv_at hl 2 rfl) ?_
  by_cases c542 : r2 = 43
  · have hsp := itT hsp c542
    refine lv_lookup (off := 44) (tgt := 144) hx hb dX1_readWork_100 (by decide) (by rw [c542]; decide) (by decide) ?_
    refine lv_aload_n hx hb dX1_readWork_144 rfl (lv_at hl 4 rfl) ?_
    obtain ⟨r543, hcr543, hsp⟩ := clE hsp
    refine call_z (w1 := [(a0, .inr (1, [.ref a1, .int g0_1, .int r543.2.1, .ref a2])), (a1, .inl (cI, 60, .inl f1)), (a2, .inr (3, [.int r541.1, .int r541.2.1, .int r541.2.2.1, .int r541.2.2.2.1, .ref a3])), (a3, .inl (cI, 4, .inl r543.2.2))]) (ws' := [(a0, .inr (1, [.ref a1, .int g0_1, .int r543.2.1, .ref a2])), (a1, .inl (cI, 60, .inl f1)), (a2, .inr (3, [.int r541.1, .int r541.2.1, .int r541.2.2.1, .int r541.2.2.2.1, .ref a3])), (a3, .inl (cI, 4, .inl r543.2.2))]) (va_runV (As := []) (rest := []) ⟨hx, hb, hml, hown, hts⟩ (k_X1_readKinds l D cI cZ cC cS H.size a0 a1 a2 a3 g0_1 x540 f1 (.int r541.1) (.int r541.2.1) (.int r541.2.2.1) (.int r541.2.2.2.1) r541.2.2.2.2 r543 hcr543) (cwV 0 hts gX1_readWork_X1_readKinds rfl rfl rfl nd_X1_readKinds ⟨Nat.le_of_ble_eq_true rfl, Nat.le_of_ble_eq_true rfl⟩) (PB.preV (ci := 1) (q0 := 0) hKU hP hD [0, 1, 2, 3] rfl rfl rfl rfl) rfl rfl hl.1 rfl (lv_room (Nat.le_of_ble_eq_true rfl)) dX1_readWork_145 ⟨Nat.zero_le _, Nat.zero_le _⟩) hS hP hD hA [0, 1, 2, 3] rfl rfl (by first | (simp only [wset, List.set_cons_zero, List.set_cons_succ]; done) | rfl) rfl (fun H locs hP hD hS hzr543 => ?_)
    have hres := Option.some.inj hsp
    subst hres
    exact W.zret (v := r543.1) hx hb hr (zE hzr543) (fun t ht hW => ⟨⟨r543.1, (), rfl, ⟨rfl, hzr543⟩, P_at ht hP⟩, hS.F ht⟩) hS.2.2 dX1_readWork_148
  have hsp := itF hsp c542
  by_cases c544 : r2 = 62
  · have hsp := itT hsp c544
    refine lv_lookup (off := 49) (tgt := 149) hx hb dX1_readWork_100 (by decide) (by rw [c544]; decide) (by decide) ?_
    refine lv_aload_n hx hb dX1_readWork_149 rfl (lv_at hl 4 rfl) ?_
    obtain ⟨r545, hcr545, hsp⟩ := clE hsp
    refine call_z (w1 := [(a0, .inr (1, [.ref a1, .int g0_1, .int r545.2.1, .ref a2])), (a1, .inl (cI, 60, .inl f1)), (a2, .inr (3, [.int r541.1, .int r541.2.1, .int r545.2.2, .int r541.2.2.2.1, .ref a3]))]) (ws' := [(a0, .inr (1, [.ref a1, .int g0_1, .int r545.2.1, .ref a2])), (a1, .inl (cI, 60, .inl f1)), (a2, .inr (3, [.int r541.1, .int r541.2.1, .int r545.2.2, .int r541.2.2.2.1, .ref a3])), (a3, .inl (cI, 4, .inl r541.2.2.2.2))]) (va_runV (As := []) (rest := []) ⟨hx, hb, hml, hown, hts⟩ (k_X1_readOther l D cI cZ cC cS H.size a0 a1 a2 g0_1 x540 f1 (.int r541.1) (.int r541.2.1) r541.2.2.1 (.int r541.2.2.2.1) (.ref a3) r545 hcr545) (cwV 0 hts gX1_readWork_X1_readOther rfl rfl rfl nd_X1_readOther ⟨Nat.le_of_ble_eq_true rfl, Nat.le_of_ble_eq_true rfl⟩) (PB.preV (ci := 1) (q0 := 0) hKU hP hD [0, 1, 2] rfl rfl rfl rfl) rfl rfl hl.1 rfl (lv_room (Nat.le_of_ble_eq_true rfl)) dX1_readWork_150 ⟨Nat.zero_le _, Nat.zero_le _⟩) hS hP hD hA [0, 1, 2] rfl rfl (by first | (simp only [wset, List.set_cons_zero, List.set_cons_succ]; done) | rfl) rfl (fun H locs hP hD hS hzr545 => ?_)
    refine lv_if_eq (tgt := 180) hx hb dX1_readWork_153 (by decide) (fun c546 => ?_) (fun c546 => ?_)
    · have hsp := itT hsp c546
      refine lv_iconst (v := 0) hx hb dX1_readWork_180 (by decide) ?_
      have hres := Option.some.inj hsp
      subst hres
      exact W.zret (v := 0) hx hb hr (zE (Or.inl rfl)) (fun t ht hW => ⟨⟨0, (), rfl, ⟨rfl, (Or.inl rfl)⟩, P_at ht hP⟩, hS.F ht⟩) hS.2.2 dX1_readWork_181
    have hsp := itF hsp c546
    refine lv_aload_n hx hb dX1_readWork_156 rfl (lv_at hl 4 rfl) ?_
    refine lv_bipush (v := 58) hx hb dX1_readWork_157 (by decide) ?_
    obtain ⟨r547, hcr547, hsp⟩ := clE hsp
    refine call_z (w1 := [(a0, .inr (1, [.ref a1, .int g0_1, .int r547.2, .ref a2])), (a1, .inl (cI, 60, .inl f1))]) (ws' := [(a0, .inr (1, [.ref a1, .int g0_1, .int r547.2, .ref a2])), (a1, .inl (cI, 60, .inl f1)), (a2, .inr (3, [.int r541.1, .int r541.2.1, .int r545.2.2, .int r541.2.2.2.1, .ref a3])), (a3, .inl (cI, 4, .inl r541.2.2.2.2))]) (va_runV (As := [.int 58]) (rest := []) ⟨hx, hb, hml, hown, hts⟩ (k_X1_readSign l D cI cZ cC cS H.size a0 a1 g0_1 r545.2.1 (.ref a2) f1 58 r547 hcr547) (cwV 1 hts gX1_readWork_X1_readSign rfl rfl rfl nd_X1_readSign ⟨Nat.le_of_ble_eq_true rfl, Nat.le_of_ble_eq_true rfl⟩) (PB.preV (ci := 1) (q0 := 0) hKU hP hD [0, 1] rfl rfl rfl rfl) rfl rfl hl.1 rfl (lv_room (Nat.le_of_ble_eq_true rfl)) dX1_readWork_159 ⟨Nat.zero_le _, Nat.zero_le _⟩) hS hP hD hA [0, 1] rfl rfl (by first | (simp only [wset, List.set_cons_zero, List.set_cons_succ]; done) | rfl) rfl (fun H locs hP hD hS hzr547 => ?_)
    refine lv_if_eq (tgt := 180) hx hb dX1_readWork_162 (by decide) (fun c548 => ?_) (fun c548 => ?_)
    · have hsp := itT hsp c548
      refine lv_iconst (v := 0) hx hb dX1_readWork_180 (by decide) ?_
      have hres := Option.some.inj hsp
      subst hres
      exact W.zret (v := 0) hx hb hr (zE (Or.inl rfl)) (fun t ht hW => ⟨⟨0, (), rfl, ⟨rfl, (Or.inl rfl)⟩, P_at ht hP⟩, hS.F ht⟩) hS.2.2 dX1_readWork_181
    have hsp := itF hsp c548
    refine lv_aload_n hx hb dX1_readWork_165 rfl (lv_at hl 4 rfl) ?_
    refine lv_aload_n hx hb dX1_readWork_166 rfl (lv_at hl 4 rfl) ?_
    obtain ⟨r549, hcr549, hsp⟩ := clE hsp
    refine call_i (w1 := [(a0, .inr (1, [.ref a1, .int g0_1, .int r549.2, .ref a2])), (a1, .inl (cI, 60, .inl f1))]) (ws' := [(a0, .inr (1, [.ref a1, .int g0_1, .int r549.2, .ref a2])), (a1, .inl (cI, 60, .inl f1)), (a2, .inr (3, [.int r541.1, .int r541.2.1, .int r545.2.2, .int r541.2.2.2.1, .ref a3])), (a3, .inl (cI, 4, .inl r541.2.2.2.2))]) (va_runV (As := []) (rest := [.ref a0]) ⟨hx, hb, hml, hown, hts⟩ (k_X1_readNumber l D cI cZ cC cS H.size a0 a1 g0_1 r547.2 (.ref a2) f1 r549 hcr549) (cwV 0 hts gX1_readWork_X1_readNumber rfl rfl rfl nd_X1_readNumber ⟨Nat.le_of_ble_eq_true rfl, Nat.le_of_ble_eq_true rfl⟩) (PB.preV (ci := 1) (q0 := 0) hKU hP hD [0, 1] rfl rfl rfl rfl) rfl rfl hl.1 rfl (lv_room (Nat.le_of_ble_eq_true rfl)) dX1_readWork_167 ⟨Nat.zero_le _, Nat.zero_le _⟩) hS hP hD hA [0, 1] rfl rfl (by first | (simp only [wset, List.set_cons_zero, List.set_cons_succ]; done) | rfl) rfl (fun H locs hP hD hS => ?_)
    obtain ⟨r550, hcr550, hsp⟩ := clE hsp
    refine call_z (w1 := [(a0, .inr (1, [.ref a1, .int g0_1, .int r549.2, .ref a2])), (a2, .inr (3, [.int r541.1, .int r541.2.1, .int r545.2.2, .int r550.2, .ref a3]))]) (ws' := [(a0, .inr (1, [.ref a1, .int g0_1, .int r549.2, .ref a2])), (a1, .inl (cI, 60, .inl f1)), (a2, .inr (3, [.int r541.1, .int r541.2.1, .int r545.2.2, .int r550.2, .ref a3])), (a3, .inl (cI, 4, .inl r541.2.2.2.2))]) (va_runV (As := [.int r549.1]) (rest := []) ⟨hx, hb, hml, hown, hts⟩ (k_X1_readDrops l D cI cZ cC cS H.size a0 a2 (.ref a1) (.int g0_1) (.int r549.2) (.int r541.1) (.int r541.2.1) (.int r545.2.2) r541.2.2.2.1 (.ref a3) r549.1 r550 hcr550) (cwV 1 hts gX1_readWork_X1_readDrops rfl rfl rfl nd_X1_readDrops ⟨Nat.le_of_ble_eq_true rfl, Nat.le_of_ble_eq_true rfl⟩) (PB.preV (ci := 1) (q0 := 0) hKU hP hD [0, 2] rfl rfl rfl rfl) rfl rfl hl.1 rfl (lv_room (Nat.le_of_ble_eq_true rfl)) dX1_readWork_170 ⟨Nat.zero_le _, Nat.zero_le _⟩) hS hP hD hA [0, 2] rfl rfl (by first | (simp only [wset, List.set_cons_zero, List.set_cons_succ]; done) | rfl) rfl (fun H locs hP hD hS hzr550 => ?_)
    refine lv_if_eq (tgt := 180) hx hb dX1_readWork_173 (by decide) (fun c551 => ?_) (fun c551 => ?_)
    · have hsp := itT hsp c551
      refine lv_iconst (v := 0) hx hb dX1_readWork_180 (by decide) ?_
      have hres := Option.some.inj hsp
      subst hres
      exact W.zret (v := 0) hx hb hr (zE (Or.inl rfl)) (fun t ht hW => ⟨⟨0, (), rfl, ⟨rfl, (Or.inl rfl)⟩, P_at ht hP⟩, hS.F ht⟩) hS.2.2 dX1_readWork_181
    have hsp := itF hsp c551
    refine lv_iconst (v := 1) hx hb dX1_readWork_176 (by decide) ?_
    refine lv_goto (tgt := 181) hx hb dX1_readWork_177 (by decide) ?_
    have hres := Option.some.inj hsp
    subst hres
    exact W.zret (v := 1) hx hb hr (zE (Or.inr rfl)) (fun t ht hW => ⟨⟨1, (), rfl, ⟨rfl, (Or.inr rfl)⟩, P_at ht hP⟩, hS.F ht⟩) hS.2.2 dX1_readWork_181
  have hsp := itF hsp c544
  by_cases c552 : r2 = 100
  · have hsp := itT hsp c552
    refine lv_lookup (off := 82) (tgt := 182) hx hb dX1_readWork_100 (by decide) (by rw [c552]; decide) (by decide) ?_
    refine lv_aload_n hx hb dX1_readWork_182 rfl (lv_at hl 4 rfl) ?_
    refine lv_bipush (v := 8) hx hb dX1_readWork_183 (by decide) ?_
    obtain ⟨r553, hcr553, hsp⟩ := clE hsp
    refine call_z (w1 := [(a0, .inr (1, [.ref a1, .int g0_1, .int r553.2.1, .ref a2])), (a1, .inl (cI, 60, .inl f1)), (a2, .inr (3, [.int r541.1, .int r553.2.2, .int r541.2.2.1, .int r541.2.2.2.1, .ref a3]))]) (ws' := [(a0, .inr (1, [.ref a1, .int g0_1, .int r553.2.1, .ref a2])), (a1, .inl (cI, 60, .inl f1)), (a2, .inr (3, [.int r541.1, .int r553.2.2, .int r541.2.2.1, .int r541.2.2.2.1, .ref a3])), (a3, .inl (cI, 4, .inl r541.2.2.2.2))]) (va_runV (As := [.int 8]) (rest := []) ⟨hx, hb, hml, hown, hts⟩ (k_X1_readTarget l D cI cZ cC cS H.size a0 a1 a2 g0_1 x540 f1 (.int r541.1) r541.2.1 (.int r541.2.2.1) (.int r541.2.2.2.1) (.ref a3) 8 r553 hcr553) (cwV 1 hts gX1_readWork_X1_readTarget rfl rfl rfl nd_X1_readTarget ⟨Nat.le_of_ble_eq_true rfl, Nat.le_of_ble_eq_true rfl⟩) (PB.preV (ci := 1) (q0 := 0) hKU hP hD [0, 1, 2] rfl rfl rfl rfl) rfl rfl hl.1 rfl (lv_room (Nat.le_of_ble_eq_true rfl)) dX1_readWork_185 ⟨Nat.zero_le _, Nat.zero_le _⟩) hS hP hD hA [0, 1, 2] rfl rfl (by first | (simp only [wset, List.set_cons_zero, List.set_cons_succ]; done) | rfl) rfl (fun H locs hP hD hS hzr553 => ?_)
    refine lv_if_eq (tgt := 218) hx hb dX1_readWork_188 (by decide) (fun c554 => ?_) (fun c554 => ?_)
    · have hsp := itT hsp c554
      refine lv_iconst (v := 0) hx hb dX1_readWork_218 (by decide) ?_
      have hres := Option.some.inj hsp
      subst hres
      exact W.zret (v := 0) hx hb hr (zE (Or.inl rfl)) (fun t ht hW => ⟨⟨0, (), rfl, ⟨rfl, (Or.inl rfl)⟩, P_at ht hP⟩, hS.F ht⟩) hS.2.2 dX1_readWork_219
    have hsp := itF hsp c554
    refine lv_aload_n hx hb dX1_readWork_191 rfl (lv_at hl 4 rfl) ?_
    refine lv_bipush (v := 58) hx hb dX1_readWork_192 (by decide) ?_
    obtain ⟨r555, hcr555, hsp⟩ := clE hsp
    refine call_z (w1 := [(a0, .inr (1, [.ref a1, .int g0_1, .int r555.2, .ref a2])), (a1, .inl (cI, 60, .inl f1))]) (ws' := [(a0, .inr (1, [.ref a1, .int g0_1, .int r555.2, .ref a2])), (a1, .inl (cI, 60, .inl f1)), (a2, .inr (3, [.int r541.1, .int r553.2.2, .int r541.2.2.1, .int r541.2.2.2.1, .ref a3])), (a3, .inl (cI, 4, .inl r541.2.2.2.2))]) (va_runV (As := [.int 58]) (rest := []) ⟨hx, hb, hml, hown, hts⟩ (k_X1_readSign l D cI cZ cC cS H.size a0 a1 g0_1 r553.2.1 (.ref a2) f1 58 r555 hcr555) (cwV 1 hts gX1_readWork_X1_readSign rfl rfl rfl nd_X1_readSign ⟨Nat.le_of_ble_eq_true rfl, Nat.le_of_ble_eq_true rfl⟩) (PB.preV (ci := 1) (q0 := 0) hKU hP hD [0, 1] rfl rfl rfl rfl) rfl rfl hl.1 rfl (lv_room (Nat.le_of_ble_eq_true rfl)) dX1_readWork_194 ⟨Nat.zero_le _, Nat.zero_le _⟩) hS hP hD hA [0, 1] rfl rfl (by first | (simp only [wset, List.set_cons_zero, List.set_cons_succ]; done) | rfl) rfl (fun H locs hP hD hS hzr555 => ?_)
    refine lv_if_eq (tgt := 218) hx hb dX1_readWork_197 (by decide) (fun c556 => ?_) (fun c556 => ?_)
    · have hsp := itT hsp c556
      refine lv_iconst (v := 0) hx hb dX1_readWork_218 (by decide) ?_
      have hres := Option.some.inj hsp
      subst hres
      exact W.zret (v := 0) hx hb hr (zE (Or.inl rfl)) (fun t ht hW => ⟨⟨0, (), rfl, ⟨rfl, (Or.inl rfl)⟩, P_at ht hP⟩, hS.F ht⟩) hS.2.2 dX1_readWork_219
    have hsp := itF hsp c556
    refine lv_aload_n hx hb dX1_readWork_200 rfl (lv_at hl 4 rfl) ?_
    refine lv_aload_n hx hb dX1_readWork_201 rfl (lv_at hl 4 rfl) ?_
    refine lv_iconst (v := 1) hx hb dX1_readWork_202 (by decide) ?_
    refine lv_bipush (v := 9) hx hb dX1_readWork_203 (by decide) ?_
    obtain ⟨r557, hcr557, hsp⟩ := clE hsp
    refine call_i (w1 := [(a0, .inr (1, [.ref a1, .int g0_1, .int r557.2, .ref a2])), (a1, .inl (cI, 60, .inl f1))]) (ws' := [(a0, .inr (1, [.ref a1, .int g0_1, .int r557.2, .ref a2])), (a1, .inl (cI, 60, .inl f1)), (a2, .inr (3, [.int r541.1, .int r553.2.2, .int r541.2.2.1, .int r541.2.2.2.1, .ref a3])), (a3, .inl (cI, 4, .inl r541.2.2.2.2))]) (va_runV (As := [.int 1, .int 9]) (rest := [.ref a0]) ⟨hx, hb, hml, hown, hts⟩ (k_X1_readDigit l D cI cZ cC cS H.size a0 a1 g0_1 r555.2 (.ref a2) f1 1 9 r557 hcr557) (cwV 2 hts gX1_readWork_X1_readDigit rfl rfl rfl nd_X1_readDigit ⟨Nat.le_of_ble_eq_true rfl, Nat.le_of_ble_eq_true rfl⟩) (PB.preV (ci := 1) (q0 := 0) hKU hP hD [0, 1] rfl rfl rfl rfl) rfl rfl hl.1 rfl (lv_room (Nat.le_of_ble_eq_true rfl)) dX1_readWork_205 ⟨Nat.zero_le _, Nat.zero_le _⟩) hS hP hD hA [0, 1] rfl rfl (by first | (simp only [wset, List.set_cons_zero, List.set_cons_succ]; done) | rfl) rfl (fun H locs hP hD hS => ?_)
    obtain ⟨r558, hcr558, hsp⟩ := clE hsp
    refine call_z (w1 := [(a0, .inr (1, [.ref a1, .int g0_1, .int r557.2, .ref a2])), (a2, .inr (3, [.int r541.1, .int r553.2.2, .int r541.2.2.1, .int r558.2, .ref a3]))]) (ws' := [(a0, .inr (1, [.ref a1, .int g0_1, .int r557.2, .ref a2])), (a1, .inl (cI, 60, .inl f1)), (a2, .inr (3, [.int r541.1, .int r553.2.2, .int r541.2.2.1, .int r558.2, .ref a3])), (a3, .inl (cI, 4, .inl r541.2.2.2.2))]) (va_runV (As := [.int r557.1]) (rest := []) ⟨hx, hb, hml, hown, hts⟩ (k_X1_readDrops l D cI cZ cC cS H.size a0 a2 (.ref a1) (.int g0_1) (.int r557.2) (.int r541.1) (.int r553.2.2) (.int r541.2.2.1) r541.2.2.2.1 (.ref a3) r557.1 r558 hcr558) (cwV 1 hts gX1_readWork_X1_readDrops rfl rfl rfl nd_X1_readDrops ⟨Nat.le_of_ble_eq_true rfl, Nat.le_of_ble_eq_true rfl⟩) (PB.preV (ci := 1) (q0 := 0) hKU hP hD [0, 2] rfl rfl rfl rfl) rfl rfl hl.1 rfl (lv_room (Nat.le_of_ble_eq_true rfl)) dX1_readWork_208 ⟨Nat.zero_le _, Nat.zero_le _⟩) hS hP hD hA [0, 2] rfl rfl (by first | (simp only [wset, List.set_cons_zero, List.set_cons_succ]; done) | rfl) rfl (fun H locs hP hD hS hzr558 => ?_)
    refine lv_if_eq (tgt := 218) hx hb dX1_readWork_211 (by decide) (fun c559 => ?_) (fun c559 => ?_)
    · have hsp := itT hsp c559
      refine lv_iconst (v := 0) hx hb dX1_readWork_218 (by decide) ?_
      have hres := Option.some.inj hsp
      subst hres
      exact W.zret (v := 0) hx hb hr (zE (Or.inl rfl)) (fun t ht hW => ⟨⟨0, (), rfl, ⟨rfl, (Or.inl rfl)⟩, P_at ht hP⟩, hS.F ht⟩) hS.2.2 dX1_readWork_219
    have hsp := itF hsp c559
    refine lv_iconst (v := 1) hx hb dX1_readWork_214 (by decide) ?_
    refine lv_goto (tgt := 219) hx hb dX1_readWork_215 (by decide) ?_
    have hres := Option.some.inj hsp
    subst hres
    exact W.zret (v := 1) hx hb hr (zE (Or.inr rfl)) (fun t ht hW => ⟨⟨1, (), rfl, ⟨rfl, (Or.inr rfl)⟩, P_at ht hP⟩, hS.F ht⟩) hS.2.2 dX1_readWork_219
  have hsp := itF hsp c552
  by_cases c560 : r2 = 112
  · have hsp := itT hsp c560
    refine lv_lookup (off := 120) (tgt := 220) hx hb dX1_readWork_100 (by decide) (by rw [c560]; decide) (by decide) ?_
    refine lv_aload_n hx hb dX1_readWork_220 rfl (lv_at hl 4 rfl) ?_
    refine lv_bipush (v := 6) hx hb dX1_readWork_221 (by decide) ?_
    obtain ⟨r561, hcr561, hsp⟩ := clE hsp
    refine call_z (w1 := [(a0, .inr (1, [.ref a1, .int g0_1, .int r561.2.1, .ref a2])), (a1, .inl (cI, 60, .inl f1)), (a2, .inr (3, [.int r541.1, .int r561.2.2, .int r541.2.2.1, .int r541.2.2.2.1, .ref a3]))]) (ws' := [(a0, .inr (1, [.ref a1, .int g0_1, .int r561.2.1, .ref a2])), (a1, .inl (cI, 60, .inl f1)), (a2, .inr (3, [.int r541.1, .int r561.2.2, .int r541.2.2.1, .int r541.2.2.2.1, .ref a3])), (a3, .inl (cI, 4, .inl r541.2.2.2.2))]) (va_runV (As := [.int 6]) (rest := []) ⟨hx, hb, hml, hown, hts⟩ (k_X1_readTarget l D cI cZ cC cS H.size a0 a1 a2 g0_1 x540 f1 (.int r541.1) r541.2.1 (.int r541.2.2.1) (.int r541.2.2.2.1) (.ref a3) 6 r561 hcr561) (cwV 1 hts gX1_readWork_X1_readTarget rfl rfl rfl nd_X1_readTarget ⟨Nat.le_of_ble_eq_true rfl, Nat.le_of_ble_eq_true rfl⟩) (PB.preV (ci := 1) (q0 := 0) hKU hP hD [0, 1, 2] rfl rfl rfl rfl) rfl rfl hl.1 rfl (lv_room (Nat.le_of_ble_eq_true rfl)) dX1_readWork_223 ⟨Nat.zero_le _, Nat.zero_le _⟩) hS hP hD hA [0, 1, 2] rfl rfl (by first | (simp only [wset, List.set_cons_zero, List.set_cons_succ]; done) | rfl) rfl (fun H locs hP hD hS hzr561 => ?_)
    have hres := Option.some.inj hsp
    subst hres
    exact W.zret (v := r561.1) hx hb hr (zE hzr561) (fun t ht hW => ⟨⟨r561.1, (), rfl, ⟨rfl, hzr561⟩, P_at ht hP⟩, hS.F ht⟩) hS.2.2 dX1_readWork_226
  have hsp := itF hsp c560
  refine lv_lookup (off := 127) (tgt := 227) hx hb dX1_readWork_100 (by decide) ((lv_osw c542 (by decide)).trans ((lv_osw c544 (by decide)).trans ((lv_osw c552 (by decide)).trans ((lv_osw c560 (by decide)).trans rfl)))) (by decide) ?_
  refine lv_iconst (v := 1) hx hb dX1_readWork_227 (by decide) ?_
  have hres := Option.some.inj hsp
  subst hres
  exact W.zret (v := 1) hx hb hr (zE (Or.inr rfl)) (fun t ht hW => ⟨⟨1, (), rfl, ⟨rfl, (Or.inr rfl)⟩, P_at ht hP⟩, hS.F ht⟩) hS.2.2 dX1_readWork_228
