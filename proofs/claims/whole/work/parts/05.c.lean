theorem nd_X5_faultOf : yX5_faultOf.cls = RX5 ∧ yX5_faultOf.cls ≠ "java/lang/invoke/MethodHandle" ∧ yX5_faultOf.cls ≠ "java/lang/invoke/VarHandle" ∧ (parseMethodDescriptor yX5_faultOf.desc).map (fun d => d.parameters.length) = some 0 := by decide +kernel
set_option maxHeartbeats 8000000 in
set_option maxRecDepth 100000 in
theorem k_X5_faultOf (l : Launch) (D : va_G) (cI cZ cC cS : ClassId) (sz : Nat) (a0 a8 a9 : Nat) (w0_0 : Value) (w0_1 : Value) (w0_2 : Value) (w0_3 : Value) (w0_4 : Value) (w0_5 : Value) (w0_6 : Value) (g0_9 : Int32) (w0_10 : Value) (g0_11 : Int32) (g0_12 : Int32) (f8 : Nat → Int32) (f9 : Nat → Int32) (res : Int32 × Int32 × Int32 × (Nat → Int32)) (hsp : s_X5_faultOf g0_9 f8 f9 = some res) : Met l yX5_faultOf wsX5_faultOf ({ frames := 6, cells := 0, slots := 0, locals := 137 }) (va_Pc [.ref a0] (PB D cI cZ cC cS [(a0, .inr (5, [w0_0, w0_1, w0_2, w0_3, w0_4, w0_5, w0_6, .ref a8, .ref a9, .int g0_9, w0_10, .int g0_11, .int g0_12])), (a8, .inl (cI, 192, .inl f8)), (a9, .inl (cC, 60, .inl f9))] sz)) (va_Qi (fun r (_ : Unit) => r = res.1) (fun _ t => va_P D vwCl [(a0, .inr (5, [w0_0, w0_1, w0_2, w0_3, w0_4, w0_5, w0_6, .ref a8, .ref a9, .int g0_9, w0_10, .int res.2.1, .int res.2.2.1])), (a8, .inl (cI, 192, .inl res.2.2.2)), (a9, .inl (cC, 60, .inl f9))] t.heap) (va_A [(a0, .inr (5, [w0_0, w0_1, w0_2, w0_3, w0_4, w0_5, w0_6, .ref a8, .ref a9, .int g0_9, w0_10, .int g0_11, .int g0_12])), (a8, .inl (cI, 192, .inl f8)), (a9, .inl (cC, 60, .inl f9))] sz)) 0 0 (va_A [(a0, .inr (5, [w0_0, w0_1, w0_2, w0_3, w0_4, w0_5, w0_6, .ref a8, .ref a9, .int g0_9, w0_10, .int g0_11, .int g0_12])), (a8, .inl (cI, 192, .inl f8)), (a9, .inl (cC, 60, .inl f9))] sz) := by
  refine Met.ofW (cc := cX5_faultOf) (maxL := 2) (ret := (some .int)) (by decide) rfl ?_
  intro p e s m args below meth c s₁ B hml hv
  obtain ⟨rfl, hsz, hP, hD0, hKU⟩ := hv
  have hx := B.exec
  have hb := B.bytes
  have hr := B.returns
  have hts := atoms_spec (ws := wsX5_faultOf) B.pre
  have hown : s.vm.findClass RX5 = some m.cls := findClass_of_methodNamed B.named
  have hlocks := B.notSynchronized
  have hK := hKU.1
  have hf_123 := hts (.fieldLink RX5 123 "ThinnedPotsModel" "at" "I") (by decide +kernel)
  have hi_X5 : ∀ w ∈ u_ws RX5 TX5 13, w ∈ wsX5_faultOf := by decide +kernel
  have hf_133 := hts (.fieldLink RX5 133 "ThinnedPotsModel" "works" "I") (by decide +kernel)
  have hf_126 := hts (.fieldLink RX5 126 "ThinnedPotsModel" "length" "I") (by decide +kernel)
  subst hsz
  have hD := hD0.self (sz := s.heap.size)
  generalize hAe : va_A [(a0, .inr (5, [w0_0, w0_1, w0_2, w0_3, w0_4, w0_5, w0_6, .ref a8, .ref a9, .int g0_9, w0_10, .int g0_11, .int g0_12])), (a8, .inl (cI, 192, .inl f8)), (a9, .inl (cC, 60, .inl f9))] s.heap.size = A at hD ⊢
  have hA : ∀ q : Nat, s.heap.size ≤ q → A q := fun q h => by rw [← hAe]; exact Or.inr h
  have hP : va_P D vwCl [(a0, .inr (5, [w0_0, w0_1, w0_2, w0_3, w0_4, w0_5, w0_6, .ref a8, .ref a9, .int g0_9, w0_10, .int g0_11, .int g0_12])), (a8, .inl (cI, 192, .inl f8)), (a9, .inl (cC, 60, .inl f9))] s.heap := hP
  generalize hHe : s.heap = H at hP ⊢
  have hS : va_S A s.heap H [] := by rw [hHe]; exact va_S.rf
  have hl := lv_entry ([.ref a0]) (n := 2) (Nat.le_of_ble_eq_true rfl)
  rw [lg_entry_eq]
  generalize (lg_sl ([.ref a0]) ++ List.replicate (2 - (lg_sl ([.ref a0])).length) Slot.unset).toArray = ls at hl ⊢
  have hl : lv_has ls 2 [(0, .ref a0)] := hl
  unfold s_X5_faultOf at hsp
  refine lv_aload_n hx hb dX5_faultOf_0 rfl (lv_at hl 0 rfl) ?_
  refine lv_iconst (v := 0) hx hb dX5_faultOf_1 (by decide) ?_
  refine va_put (D := D) (ci := 5) (v := .int 0) (ty := .int) (C := RX5) (T := TX5) (N := 13) hx hb hts hi_X5 tyX5 tyX5_ok nmX5 hown hK hP hD hS 0 rfl rfl 12 (by decide) hf_123 (fun _ h9 => h9) rfl (by decide +kernel) rfl rfl (Nat.le_of_ble_eq_true rfl) dX5_faultOf_2 (fun H locs hP hD hS => ?_)
  have hP : va_P D vwCl [(a0, .inr (5, [w0_0, w0_1, w0_2, w0_3, w0_4, w0_5, w0_6, .ref a8, .ref a9, .int g0_9, w0_10, .int g0_11, .int 0])), (a8, .inl (cI, 192, .inl f8)), (a9, .inl (cC, 60, .inl f9))] H := hP
  have hD : va_D A [(a0, .inr (5, [w0_0, w0_1, w0_2, w0_3, w0_4, w0_5, w0_6, .ref a8, .ref a9, .int g0_9, w0_10, .int g0_11, .int 0])), (a8, .inl (cI, 192, .inl f8)), (a9, .inl (cC, 60, .inl f9))] := hD
  refine lv_aload_n hx hb dX5_faultOf_5 rfl (lv_at hl 0 rfl) ?_
  refine lv_iconst (v := 0) hx hb dX5_faultOf_6 (by decide) ?_
  refine va_put (D := D) (ci := 5) (v := .int 0) (ty := .int) (C := RX5) (T := TX5) (N := 13) hx hb hts hi_X5 tyX5 tyX5_ok nmX5 hown hK hP hD hS 0 rfl rfl 11 (by decide) hf_133 (fun _ h9 => h9) rfl (by decide +kernel) rfl rfl (Nat.le_of_ble_eq_true rfl) dX5_faultOf_7 (fun H locs hP hD hS => ?_)
  have hP : va_P D vwCl [(a0, .inr (5, [w0_0, w0_1, w0_2, w0_3, w0_4, w0_5, w0_6, .ref a8, .ref a9, .int g0_9, w0_10, .int 0, .int 0])), (a8, .inl (cI, 192, .inl f8)), (a9, .inl (cC, 60, .inl f9))] H := hP
  have hD : va_D A [(a0, .inr (5, [w0_0, w0_1, w0_2, w0_3, w0_4, w0_5, w0_6, .ref a8, .ref a9, .int g0_9, w0_10, .int 0, .int 0])), (a8, .inl (cI, 192, .inl f8)), (a9, .inl (cC, 60, .inl f9))] := hD
  refine lv_aload_n hx hb dX5_faultOf_10 rfl (lv_at hl 0 rfl) ?_
  obtain ⟨r1, hcr1, hsp⟩ := clE hsp
  refine call_z (w1 := [(a0, .inr (5, [w0_0, w0_1, w0_2, w0_3, w0_4, w0_5, w0_6, .ref a8, .ref a9, .int g0_9, w0_10, .int r1.2.1, .int r1.2.2.1])), (a8, .inl (cI, 192, .inl r1.2.2.2)), (a9, .inl (cC, 60, .inl f9))]) (ws' := [(a0, .inr (5, [w0_0, w0_1, w0_2, w0_3, w0_4, w0_5, w0_6, .ref a8, .ref a9, .int g0_9, w0_10, .int r1.2.1, .int r1.2.2.1])), (a8, .inl (cI, 192, .inl r1.2.2.2)), (a9, .inl (cC, 60, .inl f9))]) (va_runV (As := []) (rest := []) ⟨hx, hb, hml, hown, hts⟩ (k_X5_readsWork l D cI cZ cC cS H.size a0 a8 a9 (w0_0) (w0_1) (w0_2) (w0_3) (w0_4) (w0_5) (w0_6) g0_9 (w0_10) 0 0 f8 f9 r1 hcr1) (cwV 0 hts gX5_faultOf_X5_readsWork rfl rfl rfl nd_X5_readsWork ⟨Nat.le_of_ble_eq_true rfl, Nat.le_of_ble_eq_true rfl⟩) (PB.preV (ci := 5) (q0 := 0) hKU hP hD [0, 1, 2] rfl rfl rfl rfl) rfl rfl hl.1 rfl (lv_room (Nat.le_of_ble_eq_true rfl)) dX5_faultOf_11 ⟨Nat.zero_le _, Nat.zero_le _⟩) hS hP hD hA [0, 1, 2] rfl rfl (by first | (simp only [wset, List.set_cons_zero, List.set_cons_succ]; done) | rfl) rfl (fun H locs hP hD hS hzr1 => ?_)
  refine lv_istore_n (lv' := [(1, .int r1.1), (0, .ref a0)]) hx hb dX5_faultOf_14 rfl hl (by decide) rfl (fun ls hl => ?_)
  refine ex_rule (D := D) (K := s_X5_faultOf_X1) (P := fun (t1 : Int32 × Int32 × Int32 × (Nat → Int32)) => [(a0, .inr (5, [w0_0, w0_1, w0_2, w0_3, w0_4, w0_5, w0_6, .ref a8, .ref a9, .int g0_9, w0_10, .int t1.2.2.1, .int t1.2.1])), (a8, .inl (cI, 192, .inl t1.2.2.2)), (a9, .inl (cC, 60, .inl f9))]) (L := fun (t1 : Int32 × Int32 × Int32 × (Nat → Int32)) => [(0, .ref a0), (1, .int t1.1)]) (nL := 2) (pcx := 55) (res := res) (A := A) (H0 := s.heap) ?_ (fun hx1 => ?_)
  · intro t1 H locs hsp hP hD hS ls hl
    obtain ⟨x6, x7, x8, y9⟩ := t1
    unfold s_X5_faultOf_X1 at hsp; try dsimp only at hsp
    have hP : va_P D vwCl [(a0, .inr (5, [w0_0, w0_1, w0_2, w0_3, w0_4, w0_5, w0_6, .ref a8, .ref a9, .int g0_9, w0_10, .int x8, .int x7])), (a8, .inl (cI, 192, .inl y9)), (a9, .inl (cC, 60, .inl f9))] H := hP
    have hD : va_D A [(a0, .inr (5, [w0_0, w0_1, w0_2, w0_3, w0_4, w0_5, w0_6, .ref a8, .ref a9, .int g0_9, w0_10, .int x8, .int x7])), (a8, .inl (cI, 192, .inl y9)), (a9, .inl (cC, 60, .inl f9))] := hD
    have hl : lv_has ls 2 [(0, .ref a0), (1, .int x6)] := hl
    refine lv_iload_n hx hb dX5_faultOf_55 rfl (lv_at hl 1 rfl) ?_
    refine lv_if_eq (tgt := 63) hx hb dX5_faultOf_56 (by decide) (fun c10 => ?_) (fun c10 => ?_)
    · have hsp := itT hsp c10
      refine lv_aload_n hx hb dX5_faultOf_63 rfl (lv_at hl 0 rfl) ?_
      refine va_get (D := D) (ci := 5) (v := .int x7) (C := RX5) (T := TX5) (N := 13) hx hb hts hi_X5 hown hK hP 0 rfl rfl 12 (by decide) hf_123 (fun _ h9 => h9) rfl dX5_faultOf_64 ?_
      have hres := Option.some.inj hsp
      subst hres
      exact W.iret (v := x7) hx hb hr (fun t ht hW => ⟨⟨x7, (), rfl, rfl, P_at ht hP⟩, hS.F ht⟩) hS.2.2 dX5_faultOf_67
    have hsp := itF hsp c10
    refine lv_iconst (v := (-1)) hx hb dX5_faultOf_59 (by decide) ?_
    refine lv_goto (tgt := 67) hx hb dX5_faultOf_60 (by decide) ?_
    have hres := Option.some.inj hsp
    subst hres
    exact W.iret (v := (-1)) hx hb hr (fun t ht hW => ⟨⟨(-1), (), rfl, rfl, P_at ht hP⟩, hS.F ht⟩) hS.2.2 dX5_faultOf_67
  have hl := lv_sub hl (l' := [(0, .ref a0), (1, .int r1.1)]) [1, 0] rfl
  refine lp_rule (D := D) (F := s_X5_faultOf_L1 g0_9 f9 (s_X5_faultOf_X1)) (P := fun (tv : Int32 × Int32 × Int32 × (Nat → Int32)) => [(a0, .inr (5, [w0_0, w0_1, w0_2, w0_3, w0_4, w0_5, w0_6, .ref a8, .ref a9, .int g0_9, w0_10, .int tv.2.2.1, .int tv.2.1])), (a8, .inl (cI, 192, .inl tv.2.2.2)), (a9, .inl (cC, 60, .inl f9))]) (L := fun (tv : Int32 × Int32 × Int32 × (Nat → Int32)) => [(0, .ref a0), (1, .int tv.1)]) (nL := 2) (res := res) (A := A) (H0 := s.heap) (fun _ => rfl) ?_ 1000 (r1.1, r1.2.2.1, r1.2.1, r1.2.2.2) _ _ hsp hP hD hS _ hl
  · intro n1 ih1 tv H locs hsp hP hD hS ls hl
    obtain ⟨x2, x3, x4, y5⟩ := tv
    have hsp : s_X5_faultOf_B1  g0_9 f9 (s_X5_faultOf_X1) (s_X5_faultOf_L1 g0_9 f9 (s_X5_faultOf_X1) n1) x2 x3 x4 y5 = some res := hsp
    unfold s_X5_faultOf_B1 at hsp
    have hP : va_P D vwCl [(a0, .inr (5, [w0_0, w0_1, w0_2, w0_3, w0_4, w0_5, w0_6, .ref a8, .ref a9, .int g0_9, w0_10, .int x4, .int x3])), (a8, .inl (cI, 192, .inl y5)), (a9, .inl (cC, 60, .inl f9))] H := hP
    have hD : va_D A [(a0, .inr (5, [w0_0, w0_1, w0_2, w0_3, w0_4, w0_5, w0_6, .ref a8, .ref a9, .int g0_9, w0_10, .int x4, .int x3])), (a8, .inl (cI, 192, .inl y5)), (a9, .inl (cC, 60, .inl f9))] := hD
    have hl : lv_has ls 2 [(0, .ref a0), (1, .int x2)] := hl
    refine lv_iload_n hx hb dX5_faultOf_15 rfl (lv_at hl 1 rfl) ?_
    refine lv_if_eq (tgt := 55) hx hb dX5_faultOf_16 (by decide) (fun c11 => ?_) (fun c11 => ?_)
    · have hsp := itT hsp c11
      exact hx1 (x2, x3, x4, y5) _ _ hsp hP hD hS _ (lv_sub hl [0, 1] rfl)
    have hsp := itF hsp c11
    refine lv_aload_n hx hb dX5_faultOf_19 rfl (lv_at hl 0 rfl) ?_
    refine va_get (D := D) (ci := 5) (v := .int x3) (C := RX5) (T := TX5) (N := 13) hx hb hts hi_X5 hown hK hP 0 rfl rfl 12 (by decide) hf_123 (fun _ h9 => h9) rfl dX5_faultOf_20 ?_
    refine lv_aload_n hx hb dX5_faultOf_23 rfl (lv_at hl 0 rfl) ?_
    refine va_get (D := D) (ci := 5) (v := .int g0_9) (C := RX5) (T := TX5) (N := 13) hx hb hts hi_X5 hown hK hP 0 rfl rfl 9 (by decide) hf_126 (fun _ h9 => h9) rfl dX5_faultOf_24 ?_
    refine lv_icmp_ge (tgt := 55) hx hb dX5_faultOf_27 (by decide) (fun c12 => ?_) (fun c12 => ?_)
    · have hsp := itT hsp c12
      exact hx1 (x2, x3, x4, y5) _ _ hsp hP hD hS _ (lv_sub hl [0, 1] rfl)
    have hsp := itF hsp c12
    refine lv_aload_n hx hb dX5_faultOf_30 rfl (lv_at hl 0 rfl) ?_
    refine lv_bipush (v := 59) hx hb dX5_faultOf_31 (by decide) ?_
    obtain ⟨r13, hcr13, hsp⟩ := clE hsp
    refine call_z (w1 := [(a0, .inr (5, [w0_0, w0_1, w0_2, w0_3, w0_4, w0_5, w0_6, .ref a8, .ref a9, .int g0_9, w0_10, .int x4, .int r13.2])), (a9, .inl (cC, 60, .inl f9))]) (ws' := [(a0, .inr (5, [w0_0, w0_1, w0_2, w0_3, w0_4, w0_5, w0_6, .ref a8, .ref a9, .int g0_9, w0_10, .int x4, .int r13.2])), (a8, .inl (cI, 192, .inl y5)), (a9, .inl (cC, 60, .inl f9))]) (va_runV (As := [.int 59]) (rest := []) ⟨hx, hb, hml, hown, hts⟩ (k_X5_accepts l D cI cZ cC cS H.size a0 a9 (w0_0) (w0_1) (w0_2) (w0_3) (w0_4) (w0_5) (w0_6) (.ref a8) g0_9 (w0_10) (.int x4) x3 f9 59 r13 hcr13) (cwV 1 hts gX5_faultOf_X5_accepts rfl rfl rfl nd_X5_accepts ⟨Nat.le_of_ble_eq_true rfl, Nat.le_of_ble_eq_true rfl⟩) (PB.preV (ci := 5) (q0 := 0) hKU hP hD [0, 2] rfl rfl rfl rfl) rfl rfl hl.1 rfl (lv_room (Nat.le_of_ble_eq_true rfl)) dX5_faultOf_33 ⟨Nat.zero_le _, Nat.zero_le _⟩) hS hP hD hA [0, 2] rfl rfl (by first | (simp only [wset, List.set_cons_zero, List.set_cons_succ]; done) | rfl) rfl (fun H locs hP hD hS hzr13 => ?_)
    refine lv_if_eq (tgt := 50) hx hb dX5_faultOf_36 (by decide) (fun c14 => ?_) (fun c14 => ?_)
    · have hsp := itT hsp c14
      refine lv_iconst (v := 0) hx hb dX5_faultOf_50 (by decide) ?_
      refine lv_istore_n (lv' := [(1, .int 0), (0, .ref a0)]) hx hb dX5_faultOf_51 rfl hl (by decide) rfl (fun ls hl => ?_)
      refine lv_goto (tgt := 15) hx hb dX5_faultOf_52 (by decide) ?_
      exact ih1 (0, r13.2, x4, y5) _ _ hsp hP hD hS _ (lv_sub hl [1, 0] rfl)
    have hsp := itF hsp c14
    refine lv_aload_n hx hb dX5_faultOf_39 rfl (lv_at hl 0 rfl) ?_
    obtain ⟨r15, hcr15, hsp⟩ := clE hsp
    refine call_z (w1 := [(a0, .inr (5, [w0_0, w0_1, w0_2, w0_3, w0_4, w0_5, w0_6, .ref a8, .ref a9, .int g0_9, w0_10, .int r15.2.1, .int r15.2.2.1])), (a8, .inl (cI, 192, .inl r15.2.2.2)), (a9, .inl (cC, 60, .inl f9))]) (ws' := [(a0, .inr (5, [w0_0, w0_1, w0_2, w0_3, w0_4, w0_5, w0_6, .ref a8, .ref a9, .int g0_9, w0_10, .int r15.2.1, .int r15.2.2.1])), (a8, .inl (cI, 192, .inl r15.2.2.2)), (a9, .inl (cC, 60, .inl f9))]) (va_runV (As := []) (rest := []) ⟨hx, hb, hml, hown, hts⟩ (k_X5_readsWork l D cI cZ cC cS H.size a0 a8 a9 (w0_0) (w0_1) (w0_2) (w0_3) (w0_4) (w0_5) (w0_6) g0_9 (w0_10) x4 r13.2 y5 f9 r15 hcr15) (cwV 0 hts gX5_faultOf_X5_readsWork rfl rfl rfl nd_X5_readsWork ⟨Nat.le_of_ble_eq_true rfl, Nat.le_of_ble_eq_true rfl⟩) (PB.preV (ci := 5) (q0 := 0) hKU hP hD [0, 1, 2] rfl rfl rfl rfl) rfl rfl hl.1 rfl (lv_room (Nat.le_of_ble_eq_true rfl)) dX5_faultOf_40 ⟨Nat.zero_le _, Nat.zero_le _⟩) hS hP hD hA [0, 1, 2] rfl rfl (by first | (simp only [wset, List.set_cons_zero, List.set_cons_succ]; done) | rfl) rfl (fun H locs hP hD hS hzr15 => ?_)
    refine lv_if_eq (tgt := 50) hx hb dX5_faultOf_43 (by decide) (fun c16 => ?_) (fun c16 => ?_)
    · have hsp := itT hsp c16
      refine lv_iconst (v := 0) hx hb dX5_faultOf_50 (by decide) ?_
      refine lv_istore_n (lv' := [(1, .int 0), (0, .ref a0)]) hx hb dX5_faultOf_51 rfl hl (by decide) rfl (fun ls hl => ?_)
      refine lv_goto (tgt := 15) hx hb dX5_faultOf_52 (by decide) ?_
      exact ih1 (0, r15.2.2.1, r15.2.1, r15.2.2.2) _ _ hsp hP hD hS _ (lv_sub hl [1, 0] rfl)
    have hsp := itF hsp c16
    refine lv_iconst (v := 1) hx hb dX5_faultOf_46 (by decide) ?_
    refine lv_goto (tgt := 51) hx hb dX5_faultOf_47 (by decide) ?_
    refine lv_istore_n (lv' := [(1, .int 1), (0, .ref a0)]) hx hb dX5_faultOf_51 rfl hl (by decide) rfl (fun ls hl => ?_)
    refine lv_goto (tgt := 15) hx hb dX5_faultOf_52 (by decide) ?_
    exact ih1 (1, r15.2.2.1, r15.2.1, r15.2.2.2) _ _ hsp hP hD hS _ (lv_sub hl [1, 0] rfl)

theorem nd_X5_fault : yX5_fault.cls = RX5 ∧ yX5_fault.cls ≠ "java/lang/invoke/MethodHandle" ∧ yX5_fault.cls ≠ "java/lang/invoke/VarHandle" ∧ (parseMethodDescriptor yX5_fault.desc).map (fun d => d.parameters.length) = some 0 := by decide +kernel
set_option maxHeartbeats 8000000 in
set_option maxRecDepth 100000 in
theorem k_X5_fault (l : Launch) (D : va_G) (cI cZ cC cS : ClassId) (sz : Nat) (a0 a8 a9 : Nat) (w0_0 : Value) (w0_1 : Value) (w0_2 : Value) (w0_3 : Value) (w0_4 : Value) (w0_5 : Value) (w0_6 : Value) (g0_9 : Int32) (w0_10 : Value) (g0_11 : Int32) (g0_12 : Int32) (f8 : Nat → Int32) (f9 : Nat → Int32) (res : Int32 × Int32 × Int32 × (Nat → Int32)) (hsp : s_X5_fault g0_9 f8 f9 = some res) : Met l yX5_fault wsX5_fault ({ frames := 7, cells := 0, slots := 0, locals := 158 }) (va_Pc [.ref a0] (PB D cI cZ cC cS [(a0, .inr (5, [w0_0, w0_1, w0_2, w0_3, w0_4, w0_5, w0_6, .ref a8, .ref a9, .int g0_9, w0_10, .int g0_11, .int g0_12])), (a8, .inl (cI, 192, .inl f8)), (a9, .inl (cC, 60, .inl f9))] sz)) (va_Qi (fun r (_ : Unit) => r = res.1) (fun _ t => va_P D vwCl [(a0, .inr (5, [w0_0, w0_1, w0_2, w0_3, w0_4, w0_5, w0_6, .ref a8, .ref a9, .int g0_9, w0_10, .int res.2.1, .int res.2.2.1])), (a8, .inl (cI, 192, .inl res.2.2.2)), (a9, .inl (cC, 60, .inl f9))] t.heap) (va_A [(a0, .inr (5, [w0_0, w0_1, w0_2, w0_3, w0_4, w0_5, w0_6, .ref a8, .ref a9, .int g0_9, w0_10, .int g0_11, .int g0_12])), (a8, .inl (cI, 192, .inl f8)), (a9, .inl (cC, 60, .inl f9))] sz)) 0 0 (va_A [(a0, .inr (5, [w0_0, w0_1, w0_2, w0_3, w0_4, w0_5, w0_6, .ref a8, .ref a9, .int g0_9, w0_10, .int g0_11, .int g0_12])), (a8, .inl (cI, 192, .inl f8)), (a9, .inl (cC, 60, .inl f9))] sz) := by
  refine Met.ofW (cc := cX5_fault) (maxL := 2) (ret := (some .int)) (by decide) rfl ?_
  intro p e s m args below meth c s₁ B hml hv
  obtain ⟨rfl, hsz, hP, hD0, hKU⟩ := hv
  have hx := B.exec
  have hb := B.bytes
  have hr := B.returns
  have hts := atoms_spec (ws := wsX5_fault) B.pre
  have hown : s.vm.findClass RX5 = some m.cls := findClass_of_methodNamed B.named
  have hlocks := B.notSynchronized
  have hK := hKU.1
  subst hsz
  have hD := hD0.self (sz := s.heap.size)
  generalize hAe : va_A [(a0, .inr (5, [w0_0, w0_1, w0_2, w0_3, w0_4, w0_5, w0_6, .ref a8, .ref a9, .int g0_9, w0_10, .int g0_11, .int g0_12])), (a8, .inl (cI, 192, .inl f8)), (a9, .inl (cC, 60, .inl f9))] s.heap.size = A at hD ⊢
  have hA : ∀ q : Nat, s.heap.size ≤ q → A q := fun q h => by rw [← hAe]; exact Or.inr h
  have hP : va_P D vwCl [(a0, .inr (5, [w0_0, w0_1, w0_2, w0_3, w0_4, w0_5, w0_6, .ref a8, .ref a9, .int g0_9, w0_10, .int g0_11, .int g0_12])), (a8, .inl (cI, 192, .inl f8)), (a9, .inl (cC, 60, .inl f9))] s.heap := hP
  generalize hHe : s.heap = H at hP ⊢
  have hS : va_S A s.heap H [] := by rw [hHe]; exact va_S.rf
  have hl := lv_entry ([.ref a0]) (n := 2) (Nat.le_of_ble_eq_true rfl)
  rw [lg_entry_eq]
  generalize (lg_sl ([.ref a0]) ++ List.replicate (2 - (lg_sl ([.ref a0])).length) Slot.unset).toArray = ls at hl ⊢
  have hl : lv_has ls 2 [(0, .ref a0)] := hl
  unfold s_X5_fault at hsp
  refine lv_aload_n hx hb dX5_fault_0 rfl (lv_at hl 0 rfl) ?_
  obtain ⟨r1, hcr1, hsp⟩ := clE hsp
  refine call_i (w1 := [(a0, .inr (5, [w0_0, w0_1, w0_2, w0_3, w0_4, w0_5, w0_6, .ref a8, .ref a9, .int g0_9, w0_10, .int r1.2.1, .int r1.2.2.1])), (a8, .inl (cI, 192, .inl r1.2.2.2)), (a9, .inl (cC, 60, .inl f9))]) (ws' := [(a0, .inr (5, [w0_0, w0_1, w0_2, w0_3, w0_4, w0_5, w0_6, .ref a8, .ref a9, .int g0_9, w0_10, .int r1.2.1, .int r1.2.2.1])), (a8, .inl (cI, 192, .inl r1.2.2.2)), (a9, .inl (cC, 60, .inl f9))]) (va_runV (As := []) (rest := []) ⟨hx, hb, hml, hown, hts⟩ (k_X5_faultOf l D cI cZ cC cS H.size a0 a8 a9 (w0_0) (w0_1) (w0_2) (w0_3) (w0_4) (w0_5) (w0_6) g0_9 (w0_10) g0_11 g0_12 f8 f9 r1 hcr1) (cwV 0 hts gX5_fault_X5_faultOf rfl rfl rfl nd_X5_faultOf ⟨Nat.le_of_ble_eq_true rfl, Nat.le_of_ble_eq_true rfl⟩) (PB.preV (ci := 5) (q0 := 0) hKU hP hD [0, 1, 2] rfl rfl rfl rfl) rfl rfl hl.1 rfl (lv_room (Nat.le_of_ble_eq_true rfl)) dX5_fault_1 ⟨Nat.zero_le _, Nat.zero_le _⟩) hS hP hD hA [0, 1, 2] rfl rfl (by first | (simp only [wset, List.set_cons_zero, List.set_cons_succ]; done) | rfl) rfl (fun H locs hP hD hS => ?_)
  refine lv_istore_n (lv' := [(1, .int r1.1), (0, .ref a0)]) hx hb dX5_fault_4 rfl hl (by decide) rfl (fun ls hl => ?_)
  refine lv_iload_n hx hb dX5_fault_5 rfl (lv_at hl 0 rfl) ?_
  refine lv_if_ge (tgt := 14) hx hb dX5_fault_6 (by decide) (fun c2 => ?_) (fun c2 => ?_)
  · have hsp := itT hsp c2
    refine lv_iload_n hx hb dX5_fault_14 rfl (lv_at hl 0 rfl) ?_
    have hres := Option.some.inj hsp
    subst hres
    exact W.iret (v := r1.1) hx hb hr (fun t ht hW => ⟨⟨r1.1, (), rfl, rfl, P_at ht hP⟩, hS.F ht⟩) hS.2.2 dX5_fault_15
  have hsp := itF hsp c2
  refine lv_bipush (v := (-6)) hx hb dX5_fault_9 (by decide) ?_
  refine lv_goto (tgt := 15) hx hb dX5_fault_11 (by decide) ?_
  have hres := Option.some.inj hsp
  subst hres
  exact W.iret (v := (-6)) hx hb hr (fun t ht hW => ⟨⟨(-6), (), rfl, rfl, P_at ht hP⟩, hS.F ht⟩) hS.2.2 dX5_fault_15

theorem nd_X5_fill : yX5_fill.cls = RX5 ∧ yX5_fill.cls ≠ "java/lang/invoke/MethodHandle" ∧ yX5_fill.cls ≠ "java/lang/invoke/VarHandle" ∧ (parseMethodDescriptor yX5_fill.desc).map (fun d => d.parameters.length) = some 3 := by decide +kernel
set_option maxHeartbeats 8000000 in
set_option maxRecDepth 100000 in
theorem k_X5_fill (l : Launch) (D : va_G) (cI cZ cC cS : ClassId) (sz : Nat) (a0 a1 a2 a3 : Nat) (w0_3 : Value) (w0_4 : Value) (w0_5 : Value) (w0_6 : Value) (w0_7 : Value) (w0_8 : Value) (w0_9 : Value) (g0_10 : Int32) (w0_11 : Value) (w0_12 : Value) (f1 : Nat → Int32) (f2 : Nat → Int32) (f3 : Nat → Int32) (u1 : Int32) (u2 : Int32) (u3 : Int32) (res : Int32 × Int32 × (Nat → Int32) × (Nat → Int32) × (Nat → Int32)) (hsp : s_X5_fill g0_10 f1 f2 f3 u1 u2 u3 = some res) : Met l yX5_fill wsX5_fill ({ frames := 3, cells := 0, slots := 0, locals := 65 }) (va_Pc [.ref a0, .int u1, .int u2, .int u3] (PB D cI cZ cC cS [(a0, .inr (5, [.ref a1, .ref a2, .ref a3, w0_3, w0_4, w0_5, w0_6, w0_7, w0_8, w0_9, .int g0_10, w0_11, w0_12])), (a1, .inl (cI, 99, .inl f1)), (a2, .inl (cI, 99, .inl f2)), (a3, .inl (cI, 594, .inl f3))] sz)) (va_Qi (fun r (_ : Unit) => r = res.1) (fun _ t => va_P D vwCl [(a0, .inr (5, [.ref a1, .ref a2, .ref a3, w0_3, w0_4, w0_5, w0_6, w0_7, w0_8, w0_9, .int res.2.1, w0_11, w0_12])), (a1, .inl (cI, 99, .inl res.2.2.1)), (a2, .inl (cI, 99, .inl res.2.2.2.1)), (a3, .inl (cI, 594, .inl res.2.2.2.2))] t.heap) (va_A [(a0, .inr (5, [.ref a1, .ref a2, .ref a3, w0_3, w0_4, w0_5, w0_6, w0_7, w0_8, w0_9, .int g0_10, w0_11, w0_12])), (a1, .inl (cI, 99, .inl f1)), (a2, .inl (cI, 99, .inl f2)), (a3, .inl (cI, 594, .inl f3))] sz)) 0 0 (va_A [(a0, .inr (5, [.ref a1, .ref a2, .ref a3, w0_3, w0_4, w0_5, w0_6, w0_7, w0_8, w0_9, .int g0_10, w0_11, w0_12])), (a1, .inl (cI, 99, .inl f1)), (a2, .inl (cI, 99, .inl f2)), (a3, .inl (cI, 594, .inl f3))] sz) := by
  refine Met.ofW (cc := cX5_fill) (maxL := 4) (ret := (some .int)) (by decide) rfl ?_
  intro p e s m args below meth c s₁ B hml hv
  obtain ⟨rfl, hsz, hP, hD0, hKU⟩ := hv
  have hx := B.exec
  have hb := B.bytes
  have hr := B.returns
  have hts := atoms_spec (ws := wsX5_fill) B.pre
  have hown : s.vm.findClass RX5 = some m.cls := findClass_of_methodNamed B.named
  have hlocks := B.notSynchronized
  have hK := hKU.1
  subst hsz
  have hD := hD0.self (sz := s.heap.size)
  generalize hAe : va_A [(a0, .inr (5, [.ref a1, .ref a2, .ref a3, w0_3, w0_4, w0_5, w0_6, w0_7, w0_8, w0_9, .int g0_10, w0_11, w0_12])), (a1, .inl (cI, 99, .inl f1)), (a2, .inl (cI, 99, .inl f2)), (a3, .inl (cI, 594, .inl f3))] s.heap.size = A at hD ⊢
  have hA : ∀ q : Nat, s.heap.size ≤ q → A q := fun q h => by rw [← hAe]; exact Or.inr h
  have hP : va_P D vwCl [(a0, .inr (5, [.ref a1, .ref a2, .ref a3, w0_3, w0_4, w0_5, w0_6, w0_7, w0_8, w0_9, .int g0_10, w0_11, w0_12])), (a1, .inl (cI, 99, .inl f1)), (a2, .inl (cI, 99, .inl f2)), (a3, .inl (cI, 594, .inl f3))] s.heap := hP
  generalize hHe : s.heap = H at hP ⊢
  have hS : va_S A s.heap H [] := by rw [hHe]; exact va_S.rf
  have hl := lv_entry ([.ref a0, .int u1, .int u2, .int u3]) (n := 4) (Nat.le_of_ble_eq_true rfl)
  rw [lg_entry_eq]
  generalize (lg_sl ([.ref a0, .int u1, .int u2, .int u3]) ++ List.replicate (4 - (lg_sl ([.ref a0, .int u1, .int u2, .int u3])).length) Slot.unset).toArray = ls at hl ⊢
  have hl : lv_has ls 4 [(0, .ref a0), (1, .int u1), (2, .int u2), (3, .int u3)] := hl
  unfold s_X5_fill at hsp
  refine lv_aload_n hx hb dX5_fill_0 rfl (lv_at hl 0 rfl) ?_
  obtain ⟨r1, hcr1, hsp⟩ := clE hsp
  refine call_v (w1 := [(a0, .inr (5, [.ref a1, .ref a2, .ref a3, w0_3, w0_4, w0_5, w0_6, w0_7, w0_8, w0_9, .int g0_10, w0_11, w0_12])), (a1, .inl (cI, 99, .inl f1)), (a2, .inl (cI, 99, .inl r1))]) (ws' := [(a0, .inr (5, [.ref a1, .ref a2, .ref a3, w0_3, w0_4, w0_5, w0_6, w0_7, w0_8, w0_9, .int g0_10, w0_11, w0_12])), (a1, .inl (cI, 99, .inl f1)), (a2, .inl (cI, 99, .inl r1)), (a3, .inl (cI, 594, .inl f3))]) (va_runV (As := []) (rest := []) ⟨hx, hb, hml, hown, hts⟩ (k_X5_hold l D cI cZ cC cS H.size a0 a1 a2 (.ref a3) (w0_3) (w0_4) (w0_5) (w0_6) (w0_7) (w0_8) (w0_9) (.int g0_10) (w0_11) (w0_12) f1 f2 r1 hcr1) (cwV 0 hts gX5_fill_X5_hold rfl rfl rfl nd_X5_hold ⟨Nat.le_of_ble_eq_true rfl, Nat.le_of_ble_eq_true rfl⟩) (PB.preV (ci := 5) (q0 := 0) hKU hP hD [0, 1, 2] rfl rfl rfl rfl) rfl rfl hl.1 rfl (lv_room (Nat.le_of_ble_eq_true rfl)) dX5_fill_1 ⟨Nat.zero_le _, Nat.zero_le _⟩) hS hP hD hA [0, 1, 2] rfl rfl (by first | (simp only [wset, List.set_cons_zero, List.set_cons_succ]; done) | rfl) rfl (fun H locs hP hD hS => ?_)
  refine lv_aload_n hx hb dX5_fill_4 rfl (lv_at hl 0 rfl) ?_
  refine lv_aload_n hx hb dX5_fill_5 rfl (lv_at hl 0 rfl) ?_
  refine lv_iload_n hx hb dX5_fill_6 rfl (lv_at hl 1 rfl) ?_
  refine lv_iload_n hx hb dX5_fill_7 rfl (lv_at hl 2 rfl) ?_
  refine lv_iload_n hx hb dX5_fill_8 rfl (lv_at hl 3 rfl) ?_
  obtain ⟨r2, hcr2, hsp⟩ := clE hsp
  refine call_i (w1 := [(a0, .inr (5, [.ref a1, .ref a2, .ref a3, w0_3, w0_4, w0_5, w0_6, w0_7, w0_8, w0_9, .int g0_10, w0_11, w0_12])), (a1, .inl (cI, 99, .inl r2.2))]) (ws' := [(a0, .inr (5, [.ref a1, .ref a2, .ref a3, w0_3, w0_4, w0_5, w0_6, w0_7, w0_8, w0_9, .int g0_10, w0_11, w0_12])), (a1, .inl (cI, 99, .inl r2.2)), (a2, .inl (cI, 99, .inl r1)), (a3, .inl (cI, 594, .inl f3))]) (va_runV (As := [.int u1, .int u2, .int u3]) (rest := [.ref a0]) ⟨hx, hb, hml, hown, hts⟩ (k_X5_fills l D cI cZ cC cS H.size a0 a1 (.ref a2) (.ref a3) (w0_3) (w0_4) (w0_5) (w0_6) (w0_7) (w0_8) (w0_9) (.int g0_10) (w0_11) (w0_12) f1 u1 u2 u3 r2 hcr2) (cwV 3 hts gX5_fill_X5_fills rfl rfl rfl nd_X5_fills ⟨Nat.le_of_ble_eq_true rfl, Nat.le_of_ble_eq_true rfl⟩) (PB.preV (ci := 5) (q0 := 0) hKU hP hD [0, 1] rfl rfl rfl rfl) rfl rfl hl.1 rfl (lv_room (Nat.le_of_ble_eq_true rfl)) dX5_fill_9 ⟨Nat.zero_le _, Nat.zero_le _⟩) hS hP hD hA [0, 1] rfl rfl (by first | (simp only [wset, List.set_cons_zero, List.set_cons_succ]; done) | rfl) rfl (fun H locs hP hD hS => ?_)
  obtain ⟨r3, hcr3, hsp⟩ := clE hsp
  refine call_i (w1 := [(a0, .inr (5, [.ref a1, .ref a2, .ref a3, w0_3, w0_4, w0_5, w0_6, w0_7, w0_8, w0_9, .int r3.2.1, w0_11, w0_12])), (a2, .inl (cI, 99, .inl r1)), (a3, .inl (cI, 594, .inl r3.2.2))]) (ws' := [(a0, .inr (5, [.ref a1, .ref a2, .ref a3, w0_3, w0_4, w0_5, w0_6, w0_7, w0_8, w0_9, .int r3.2.1, w0_11, w0_12])), (a1, .inl (cI, 99, .inl r2.2)), (a2, .inl (cI, 99, .inl r1)), (a3, .inl (cI, 594, .inl r3.2.2))]) (va_runV (As := [.int r2.1]) (rest := []) ⟨hx, hb, hml, hown, hts⟩ (k_X5_recorded l D cI cZ cC cS H.size a0 a2 a3 (.ref a1) (w0_3) (w0_4) (w0_5) (w0_6) (w0_7) (w0_8) (w0_9) g0_10 (w0_11) (w0_12) r1 f3 r2.1 r3 hcr3) (cwV 1 hts gX5_fill_X5_recorded rfl rfl rfl nd_X5_recorded ⟨Nat.le_of_ble_eq_true rfl, Nat.le_of_ble_eq_true rfl⟩) (PB.preV (ci := 5) (q0 := 0) hKU hP hD [0, 2, 3] rfl rfl rfl rfl) rfl rfl hl.1 rfl (lv_room (Nat.le_of_ble_eq_true rfl)) dX5_fill_12 ⟨Nat.zero_le _, Nat.zero_le _⟩) hS hP hD hA [0, 2, 3] rfl rfl (by first | (simp only [wset, List.set_cons_zero, List.set_cons_succ]; done) | rfl) rfl (fun H locs hP hD hS => ?_)
  have hres := Option.some.inj hsp
  subst hres
  exact W.iret (v := r3.1) hx hb hr (fun t ht hW => ⟨⟨r3.1, (), rfl, rfl, P_at ht hP⟩, hS.F ht⟩) hS.2.2 dX5_fill_15

theorem nd_X5_init : yX5_init.cls = RX5 ∧ yX5_init.cls ≠ "java/lang/invoke/MethodHandle" ∧ yX5_init.cls ≠ "java/lang/invoke/VarHandle" ∧ (parseMethodDescriptor yX5_init.desc).map (fun d => d.parameters.length) = some 0 := by decide +kernel
set_option maxHeartbeats 8000000 in
set_option maxRecDepth 100000 in
theorem k_X5_init (l : Launch) (D : va_G) (cI cZ cC cS : ClassId) (sz : Nat) (a0 : Nat) (res : (Nat → Int32)) (hsp : s_X5_init = some res) : Met l yX5_init wsX5_init ({ frames := 1, cells := 9, slots := 1251, locals := 24 }) (va_Pc [.ref a0] (PB D cI cZ cC cS [(a0, .inr (5, [.null, .null, .null, .null, .null, .null, .null, .null, .null, .int 0, .int 0, .int 0, .int 0]))] sz)) (va_Qv (fun (_ : Unit) => True) (fun _ t => ∃ bz : Nat → Nat, va_P D vwCl [(a0, .inr (5, [.ref (bz 0), .ref (bz 1), .ref (bz 2), .ref (bz 3), .ref (bz 4), .ref (bz 5), .ref (bz 6), .ref (bz 7), .ref (bz 8), .int 0, .int 0, .int 0, .int 0])), ((bz 0), .inl (cI, 99, .inl res)), ((bz 1), .inl (cI, 99, .inl (fun _ => 0))), ((bz 2), .inl (cI, 594, .inl (fun _ => 0))), ((bz 3), .inl (cI, 198, .inl (fun _ => 0))), ((bz 4), .inl (cZ, 2, .inl (fun _ => 0))), ((bz 5), .inl (cI, 4, .inl (fun _ => 0))), ((bz 6), .inl (cI, 3, .inl (fun _ => 0))), ((bz 7), .inl (cI, 192, .inl (fun _ => 0))), ((bz 8), .inl (cC, 60, .inl (fun _ => 0)))] t.heap ∧ va_D (va_A [(a0, .inr (5, [.null, .null, .null, .null, .null, .null, .null, .null, .null, .int 0, .int 0, .int 0, .int 0]))] sz) [(a0, .inr (5, [.ref (bz 0), .ref (bz 1), .ref (bz 2), .ref (bz 3), .ref (bz 4), .ref (bz 5), .ref (bz 6), .ref (bz 7), .ref (bz 8), .int 0, .int 0, .int 0, .int 0])), ((bz 0), .inl (cI, 99, .inl res)), ((bz 1), .inl (cI, 99, .inl (fun _ => 0))), ((bz 2), .inl (cI, 594, .inl (fun _ => 0))), ((bz 3), .inl (cI, 198, .inl (fun _ => 0))), ((bz 4), .inl (cZ, 2, .inl (fun _ => 0))), ((bz 5), .inl (cI, 4, .inl (fun _ => 0))), ((bz 6), .inl (cI, 3, .inl (fun _ => 0))), ((bz 7), .inl (cI, 192, .inl (fun _ => 0))), ((bz 8), .inl (cC, 60, .inl (fun _ => 0)))]) (va_A [(a0, .inr (5, [.null, .null, .null, .null, .null, .null, .null, .null, .null, .int 0, .int 0, .int 0, .int 0]))] sz)) 9 1251 (va_A [(a0, .inr (5, [.null, .null, .null, .null, .null, .null, .null, .null, .null, .int 0, .int 0, .int 0, .int 0]))] sz) := by
  refine Met.ofW (cc := cX5_init) (maxL := 1) (ret := none) (by decide) rfl ?_
  intro p e s m args below meth c s₁ B hml hv
  obtain ⟨rfl, hsz, hP, hD0, hKU⟩ := hv
  have hx := B.exec
  have hb := B.bytes
  have hr := B.returns
  have hts := atoms_spec (ws := wsX5_init) B.pre
  have hown : s.vm.findClass RX5 = some m.cls := findClass_of_methodNamed B.named
  have hlocks := B.notSynchronized
  have hK := hKU.1
  have hin : meth.name = "<init>" := (name_of_methodNamed B.named B.method).1
  have ho_l1 := hts (.methodLink RX5 1 objectInit) (by decide +kernel)
  have ho_i := hts (.instanceMethod objectInit) (by decide +kernel)
  have ho_c := hts (.code objectInit ⟨#[0xb1]⟩ 1 none) (by decide +kernel)
  have har_I := hts (.arrayClass .int) (by decide +kernel)
  have hf_7 := hts (.fieldLink RX5 7 "ThinnedPotsModel" "s" "[I") (by decide +kernel)
  have hi_X5 : ∀ w ∈ u_ws RX5 TX5 13, w ∈ wsX5_init := by decide +kernel
  have hf_13 := hts (.fieldLink RX5 13 "ThinnedPotsModel" "spare" "[I") (by decide +kernel)
  have hf_16 := hts (.fieldLink RX5 16 "ThinnedPotsModel" "before" "[I") (by decide +kernel)
  have hf_19 := hts (.fieldLink RX5 19 "ThinnedPotsModel" "saved" "[I") (by decide +kernel)
  have har_Z := hts (.arrayClass .boolean) (by decide +kernel)
  have hf_22 := hts (.fieldLink RX5 22 "ThinnedPotsModel" "isSaved" "[Z") (by decide +kernel)
  have hf_26 := hts (.fieldLink RX5 26 "ThinnedPotsModel" "taken" "[I") (by decide +kernel)
  have hf_29 := hts (.fieldLink RX5 29 "ThinnedPotsModel" "shade" "[I") (by decide +kernel)
  have hf_32 := hts (.fieldLink RX5 32 "ThinnedPotsModel" "read" "[I") (by decide +kernel)
  have har_C := hts (.arrayClass .char) (by decide +kernel)
  have hf_35 := hts (.fieldLink RX5 35 "ThinnedPotsModel" "pad" "[C") (by decide +kernel)
  subst hsz
  have hD := hD0.self (sz := s.heap.size)
  generalize hAe : va_A [(a0, .inr (5, [.null, .null, .null, .null, .null, .null, .null, .null, .null, .int 0, .int 0, .int 0, .int 0]))] s.heap.size = A at hD ⊢
  have hA : ∀ q : Nat, s.heap.size ≤ q → A q := fun q h => by rw [← hAe]; exact Or.inr h
  have hP : va_P D vwCl [(a0, .inr (5, [.null, .null, .null, .null, .null, .null, .null, .null, .null, .int 0, .int 0, .int 0, .int 0]))] s.heap := hP
  generalize hHe : s.heap = H at hP ⊢
  have hS : va_S A s.heap H [] := by rw [hHe]; exact va_S.rf
  have hl := lv_entry ([.ref a0]) (n := 1) (Nat.le_of_ble_eq_true rfl)
  rw [lg_entry_eq]
  generalize (lg_sl ([.ref a0]) ++ List.replicate (1 - (lg_sl ([.ref a0])).length) Slot.unset).toArray = ls at hl ⊢
  have hl : lv_has ls 1 [(0, .ref a0)] := hl
  unfold s_X5_init at hsp
  refine lv_aload_n hx hb dX5_init_0 rfl (lv_at hl 0 rfl) ?_
  refine W.objInit hx hb hown ho_l1 ho_i ho_c rfl (by rw [hml]; exact hl.1) rfl dX5_init_1 (Nat.le_of_ble_eq_true rfl) (Nat.le_of_ble_eq_true rfl) ?_
  refine W.eq (g2 := F0 m 4 ls []) rfl ?_
  refine lv_aload_n hx hb dX5_init_4 rfl (lv_at hl 0 rfl) ?_
  refine lv_bipush (v := 99) hx hb dX5_init_5 (by decide) ?_
  refine r_newaI (N' := 99) hx hb har_I hK hP hD hS hA (by decide) rfl (Nat.le_of_ble_eq_true rfl) (Nat.le_of_ble_eq_true rfl) (Nat.le_of_ble_eq_true rfl) dX5_init_7 (fun z1 H hP hD hS => ?_)
  have hP : va_P D vwCl [(a0, .inr (5, [.null, .null, .null, .null, .null, .null, .null, .null, .null, .int 0, .int 0, .int 0, .int 0])), (z1, .inl (cI, 99, .inl (fun _ => 0)))] H := hP
  have hD : va_D A [(a0, .inr (5, [.null, .null, .null, .null, .null, .null, .null, .null, .null, .int 0, .int 0, .int 0, .int 0])), (z1, .inl (cI, 99, .inl (fun _ => 0)))] := hD
  refine W.widen (k := 1) (n := 99) (Nat.le_of_ble_eq_true rfl) (Nat.le_of_ble_eq_true rfl) ?_
  refine va_putF (D := D) (ci := 5) (v := .ref z1) (ty := .array .int) (C := RX5) (T := TX5) (N := 13) hx hb hts hi_X5 tyX5 tyX5_ok nmX5 hown hK hP hD hS 0 rfl rfl 0 (by decide) hf_7 (fun _ h9 => h9) rfl hin rfl (by decide +kernel) rfl rfl (Nat.le_of_ble_eq_true rfl) dX5_init_9 (fun H locs hP hD hS => ?_)
  have hP : va_P D vwCl [(a0, .inr (5, [.ref z1, .null, .null, .null, .null, .null, .null, .null, .null, .int 0, .int 0, .int 0, .int 0])), (z1, .inl (cI, 99, .inl (fun _ => 0)))] H := hP
  have hD : va_D A [(a0, .inr (5, [.ref z1, .null, .null, .null, .null, .null, .null, .null, .null, .int 0, .int 0, .int 0, .int 0])), (z1, .inl (cI, 99, .inl (fun _ => 0)))] := hD
  refine lv_aload_n hx hb dX5_init_12 rfl (lv_at hl 0 rfl) ?_
  refine lv_bipush (v := 99) hx hb dX5_init_13 (by decide) ?_
  refine r_newaI (N' := 99) hx hb har_I hK hP hD hS hA (by decide) rfl (Nat.le_of_ble_eq_true rfl) (Nat.le_of_ble_eq_true rfl) (Nat.le_of_ble_eq_true rfl) dX5_init_15 (fun z2 H hP hD hS => ?_)
  have hP : va_P D vwCl [(a0, .inr (5, [.ref z1, .null, .null, .null, .null, .null, .null, .null, .null, .int 0, .int 0, .int 0, .int 0])), (z1, .inl (cI, 99, .inl (fun _ => 0))), (z2, .inl (cI, 99, .inl (fun _ => 0)))] H := hP
  have hD : va_D A [(a0, .inr (5, [.ref z1, .null, .null, .null, .null, .null, .null, .null, .null, .int 0, .int 0, .int 0, .int 0])), (z1, .inl (cI, 99, .inl (fun _ => 0))), (z2, .inl (cI, 99, .inl (fun _ => 0)))] := hD
  refine W.widen (k := 2) (n := 198) (Nat.le_of_ble_eq_true rfl) (Nat.le_of_ble_eq_true rfl) ?_
  refine va_putF (D := D) (ci := 5) (v := .ref z2) (ty := .array .int) (C := RX5) (T := TX5) (N := 13) hx hb hts hi_X5 tyX5 tyX5_ok nmX5 hown hK hP hD hS 0 rfl rfl 1 (by decide) hf_13 (fun _ h9 => h9) rfl hin rfl (by decide +kernel) rfl rfl (Nat.le_of_ble_eq_true rfl) dX5_init_17 (fun H locs hP hD hS => ?_)
  have hP : va_P D vwCl [(a0, .inr (5, [.ref z1, .ref z2, .null, .null, .null, .null, .null, .null, .null, .int 0, .int 0, .int 0, .int 0])), (z1, .inl (cI, 99, .inl (fun _ => 0))), (z2, .inl (cI, 99, .inl (fun _ => 0)))] H := hP
  have hD : va_D A [(a0, .inr (5, [.ref z1, .ref z2, .null, .null, .null, .null, .null, .null, .null, .int 0, .int 0, .int 0, .int 0])), (z1, .inl (cI, 99, .inl (fun _ => 0))), (z2, .inl (cI, 99, .inl (fun _ => 0)))] := hD
  refine lv_aload_n hx hb dX5_init_20 rfl (lv_at hl 0 rfl) ?_
  refine lv_sipush (v := 594) hx hb dX5_init_21 (by decide) ?_
  refine r_newaI (N' := 594) hx hb har_I hK hP hD hS hA (by decide) rfl (Nat.le_of_ble_eq_true rfl) (Nat.le_of_ble_eq_true rfl) (Nat.le_of_ble_eq_true rfl) dX5_init_24 (fun z3 H hP hD hS => ?_)
  have hP : va_P D vwCl [(a0, .inr (5, [.ref z1, .ref z2, .null, .null, .null, .null, .null, .null, .null, .int 0, .int 0, .int 0, .int 0])), (z1, .inl (cI, 99, .inl (fun _ => 0))), (z2, .inl (cI, 99, .inl (fun _ => 0))), (z3, .inl (cI, 594, .inl (fun _ => 0)))] H := hP
  have hD : va_D A [(a0, .inr (5, [.ref z1, .ref z2, .null, .null, .null, .null, .null, .null, .null, .int 0, .int 0, .int 0, .int 0])), (z1, .inl (cI, 99, .inl (fun _ => 0))), (z2, .inl (cI, 99, .inl (fun _ => 0))), (z3, .inl (cI, 594, .inl (fun _ => 0)))] := hD
  refine W.widen (k := 3) (n := 792) (Nat.le_of_ble_eq_true rfl) (Nat.le_of_ble_eq_true rfl) ?_
  refine va_putF (D := D) (ci := 5) (v := .ref z3) (ty := .array .int) (C := RX5) (T := TX5) (N := 13) hx hb hts hi_X5 tyX5 tyX5_ok nmX5 hown hK hP hD hS 0 rfl rfl 2 (by decide) hf_16 (fun _ h9 => h9) rfl hin rfl (by decide +kernel) rfl rfl (Nat.le_of_ble_eq_true rfl) dX5_init_26 (fun H locs hP hD hS => ?_)
  have hP : va_P D vwCl [(a0, .inr (5, [.ref z1, .ref z2, .ref z3, .null, .null, .null, .null, .null, .null, .int 0, .int 0, .int 0, .int 0])), (z1, .inl (cI, 99, .inl (fun _ => 0))), (z2, .inl (cI, 99, .inl (fun _ => 0))), (z3, .inl (cI, 594, .inl (fun _ => 0)))] H := hP
  have hD : va_D A [(a0, .inr (5, [.ref z1, .ref z2, .ref z3, .null, .null, .null, .null, .null, .null, .int 0, .int 0, .int 0, .int 0])), (z1, .inl (cI, 99, .inl (fun _ => 0))), (z2, .inl (cI, 99, .inl (fun _ => 0))), (z3, .inl (cI, 594, .inl (fun _ => 0)))] := hD
  refine lv_aload_n hx hb dX5_init_29 rfl (lv_at hl 0 rfl) ?_
  refine lv_sipush (v := 198) hx hb dX5_init_30 (by decide) ?_
  refine r_newaI (N' := 198) hx hb har_I hK hP hD hS hA (by decide) rfl (Nat.le_of_ble_eq_true rfl) (Nat.le_of_ble_eq_true rfl) (Nat.le_of_ble_eq_true rfl) dX5_init_33 (fun z4 H hP hD hS => ?_)
  have hP : va_P D vwCl [(a0, .inr (5, [.ref z1, .ref z2, .ref z3, .null, .null, .null, .null, .null, .null, .int 0, .int 0, .int 0, .int 0])), (z1, .inl (cI, 99, .inl (fun _ => 0))), (z2, .inl (cI, 99, .inl (fun _ => 0))), (z3, .inl (cI, 594, .inl (fun _ => 0))), (z4, .inl (cI, 198, .inl (fun _ => 0)))] H := hP
  have hD : va_D A [(a0, .inr (5, [.ref z1, .ref z2, .ref z3, .null, .null, .null, .null, .null, .null, .int 0, .int 0, .int 0, .int 0])), (z1, .inl (cI, 99, .inl (fun _ => 0))), (z2, .inl (cI, 99, .inl (fun _ => 0))), (z3, .inl (cI, 594, .inl (fun _ => 0))), (z4, .inl (cI, 198, .inl (fun _ => 0)))] := hD
  refine W.widen (k := 4) (n := 990) (Nat.le_of_ble_eq_true rfl) (Nat.le_of_ble_eq_true rfl) ?_
  refine va_putF (D := D) (ci := 5) (v := .ref z4) (ty := .array .int) (C := RX5) (T := TX5) (N := 13) hx hb hts hi_X5 tyX5 tyX5_ok nmX5 hown hK hP hD hS 0 rfl rfl 3 (by decide) hf_19 (fun _ h9 => h9) rfl hin rfl (by decide +kernel) rfl rfl (Nat.le_of_ble_eq_true rfl) dX5_init_35 (fun H locs hP hD hS => ?_)
  have hP : va_P D vwCl [(a0, .inr (5, [.ref z1, .ref z2, .ref z3, .ref z4, .null, .null, .null, .null, .null, .int 0, .int 0, .int 0, .int 0])), (z1, .inl (cI, 99, .inl (fun _ => 0))), (z2, .inl (cI, 99, .inl (fun _ => 0))), (z3, .inl (cI, 594, .inl (fun _ => 0))), (z4, .inl (cI, 198, .inl (fun _ => 0)))] H := hP
  have hD : va_D A [(a0, .inr (5, [.ref z1, .ref z2, .ref z3, .ref z4, .null, .null, .null, .null, .null, .int 0, .int 0, .int 0, .int 0])), (z1, .inl (cI, 99, .inl (fun _ => 0))), (z2, .inl (cI, 99, .inl (fun _ => 0))), (z3, .inl (cI, 594, .inl (fun _ => 0))), (z4, .inl (cI, 198, .inl (fun _ => 0)))] := hD
  refine lv_aload_n hx hb dX5_init_38 rfl (lv_at hl 0 rfl) ?_
  refine lv_iconst (v := 2) hx hb dX5_init_39 (by decide) ?_
  refine r_newaZ (N' := 2) hx hb har_Z hK hP hD hS hA (by decide) rfl (Nat.le_of_ble_eq_true rfl) (Nat.le_of_ble_eq_true rfl) (Nat.le_of_ble_eq_true rfl) dX5_init_40 (fun z5 H hP hD hS => ?_)
  have hP : va_P D vwCl [(a0, .inr (5, [.ref z1, .ref z2, .ref z3, .ref z4, .null, .null, .null, .null, .null, .int 0, .int 0, .int 0, .int 0])), (z1, .inl (cI, 99, .inl (fun _ => 0))), (z2, .inl (cI, 99, .inl (fun _ => 0))), (z3, .inl (cI, 594, .inl (fun _ => 0))), (z4, .inl (cI, 198, .inl (fun _ => 0))), (z5, .inl (cZ, 2, .inl (fun _ => 0)))] H := hP
  have hD : va_D A [(a0, .inr (5, [.ref z1, .ref z2, .ref z3, .ref z4, .null, .null, .null, .null, .null, .int 0, .int 0, .int 0, .int 0])), (z1, .inl (cI, 99, .inl (fun _ => 0))), (z2, .inl (cI, 99, .inl (fun _ => 0))), (z3, .inl (cI, 594, .inl (fun _ => 0))), (z4, .inl (cI, 198, .inl (fun _ => 0))), (z5, .inl (cZ, 2, .inl (fun _ => 0)))] := hD
  refine W.widen (k := 5) (n := 992) (Nat.le_of_ble_eq_true rfl) (Nat.le_of_ble_eq_true rfl) ?_
  refine va_putF (D := D) (ci := 5) (v := .ref z5) (ty := .array .boolean) (C := RX5) (T := TX5) (N := 13) hx hb hts hi_X5 tyX5 tyX5_ok nmX5 hown hK hP hD hS 0 rfl rfl 4 (by decide) hf_22 (fun _ h9 => h9) rfl hin rfl (by decide +kernel) rfl rfl (Nat.le_of_ble_eq_true rfl) dX5_init_42 (fun H locs hP hD hS => ?_)
  have hP : va_P D vwCl [(a0, .inr (5, [.ref z1, .ref z2, .ref z3, .ref z4, .ref z5, .null, .null, .null, .null, .int 0, .int 0, .int 0, .int 0])), (z1, .inl (cI, 99, .inl (fun _ => 0))), (z2, .inl (cI, 99, .inl (fun _ => 0))), (z3, .inl (cI, 594, .inl (fun _ => 0))), (z4, .inl (cI, 198, .inl (fun _ => 0))), (z5, .inl (cZ, 2, .inl (fun _ => 0)))] H := hP
  have hD : va_D A [(a0, .inr (5, [.ref z1, .ref z2, .ref z3, .ref z4, .ref z5, .null, .null, .null, .null, .int 0, .int 0, .int 0, .int 0])), (z1, .inl (cI, 99, .inl (fun _ => 0))), (z2, .inl (cI, 99, .inl (fun _ => 0))), (z3, .inl (cI, 594, .inl (fun _ => 0))), (z4, .inl (cI, 198, .inl (fun _ => 0))), (z5, .inl (cZ, 2, .inl (fun _ => 0)))] := hD
  refine lv_aload_n hx hb dX5_init_45 rfl (lv_at hl 0 rfl) ?_
  refine lv_iconst (v := 4) hx hb dX5_init_46 (by decide) ?_
  refine r_newaI (N' := 4) hx hb har_I hK hP hD hS hA (by decide) rfl (Nat.le_of_ble_eq_true rfl) (Nat.le_of_ble_eq_true rfl) (Nat.le_of_ble_eq_true rfl) dX5_init_47 (fun z6 H hP hD hS => ?_)
  have hP : va_P D vwCl [(a0, .inr (5, [.ref z1, .ref z2, .ref z3, .ref z4, .ref z5, .null, .null, .null, .null, .int 0, .int 0, .int 0, .int 0])), (z1, .inl (cI, 99, .inl (fun _ => 0))), (z2, .inl (cI, 99, .inl (fun _ => 0))), (z3, .inl (cI, 594, .inl (fun _ => 0))), (z4, .inl (cI, 198, .inl (fun _ => 0))), (z5, .inl (cZ, 2, .inl (fun _ => 0))), (z6, .inl (cI, 4, .inl (fun _ => 0)))] H := hP
  have hD : va_D A [(a0, .inr (5, [.ref z1, .ref z2, .ref z3, .ref z4, .ref z5, .null, .null, .null, .null, .int 0, .int 0, .int 0, .int 0])), (z1, .inl (cI, 99, .inl (fun _ => 0))), (z2, .inl (cI, 99, .inl (fun _ => 0))), (z3, .inl (cI, 594, .inl (fun _ => 0))), (z4, .inl (cI, 198, .inl (fun _ => 0))), (z5, .inl (cZ, 2, .inl (fun _ => 0))), (z6, .inl (cI, 4, .inl (fun _ => 0)))] := hD
  refine W.widen (k := 6) (n := 996) (Nat.le_of_ble_eq_true rfl) (Nat.le_of_ble_eq_true rfl) ?_
  refine va_putF (D := D) (ci := 5) (v := .ref z6) (ty := .array .int) (C := RX5) (T := TX5) (N := 13) hx hb hts hi_X5 tyX5 tyX5_ok nmX5 hown hK hP hD hS 0 rfl rfl 5 (by decide) hf_26 (fun _ h9 => h9) rfl hin rfl (by decide +kernel) rfl rfl (Nat.le_of_ble_eq_true rfl) dX5_init_49 (fun H locs hP hD hS => ?_)
  have hP : va_P D vwCl [(a0, .inr (5, [.ref z1, .ref z2, .ref z3, .ref z4, .ref z5, .ref z6, .null, .null, .null, .int 0, .int 0, .int 0, .int 0])), (z1, .inl (cI, 99, .inl (fun _ => 0))), (z2, .inl (cI, 99, .inl (fun _ => 0))), (z3, .inl (cI, 594, .inl (fun _ => 0))), (z4, .inl (cI, 198, .inl (fun _ => 0))), (z5, .inl (cZ, 2, .inl (fun _ => 0))), (z6, .inl (cI, 4, .inl (fun _ => 0)))] H := hP
  have hD : va_D A [(a0, .inr (5, [.ref z1, .ref z2, .ref z3, .ref z4, .ref z5, .ref z6, .null, .null, .null, .int 0, .int 0, .int 0, .int 0])), (z1, .inl (cI, 99, .inl (fun _ => 0))), (z2, .inl (cI, 99, .inl (fun _ => 0))), (z3, .inl (cI, 594, .inl (fun _ => 0))), (z4, .inl (cI, 198, .inl (fun _ => 0))), (z5, .inl (cZ, 2, .inl (fun _ => 0))), (z6, .inl (cI, 4, .inl (fun _ => 0)))] := hD
  refine lv_aload_n hx hb dX5_init_52 rfl (lv_at hl 0 rfl) ?_
  refine lv_iconst (v := 3) hx hb dX5_init_53 (by decide) ?_
  refine r_newaI (N' := 3) hx hb har_I hK hP hD hS hA (by decide) rfl (Nat.le_of_ble_eq_true rfl) (Nat.le_of_ble_eq_true rfl) (Nat.le_of_ble_eq_true rfl) dX5_init_54 (fun z7 H hP hD hS => ?_)
  have hP : va_P D vwCl [(a0, .inr (5, [.ref z1, .ref z2, .ref z3, .ref z4, .ref z5, .ref z6, .null, .null, .null, .int 0, .int 0, .int 0, .int 0])), (z1, .inl (cI, 99, .inl (fun _ => 0))), (z2, .inl (cI, 99, .inl (fun _ => 0))), (z3, .inl (cI, 594, .inl (fun _ => 0))), (z4, .inl (cI, 198, .inl (fun _ => 0))), (z5, .inl (cZ, 2, .inl (fun _ => 0))), (z6, .inl (cI, 4, .inl (fun _ => 0))), (z7, .inl (cI, 3, .inl (fun _ => 0)))] H := hP
  have hD : va_D A [(a0, .inr (5, [.ref z1, .ref z2, .ref z3, .ref z4, .ref z5, .ref z6, .null, .null, .null, .int 0, .int 0, .int 0, .int 0])), (z1, .inl (cI, 99, .inl (fun _ => 0))), (z2, .inl (cI, 99, .inl (fun _ => 0))), (z3, .inl (cI, 594, .inl (fun _ => 0))), (z4, .inl (cI, 198, .inl (fun _ => 0))), (z5, .inl (cZ, 2, .inl (fun _ => 0))), (z6, .inl (cI, 4, .inl (fun _ => 0))), (z7, .inl (cI, 3, .inl (fun _ => 0)))] := hD
  refine W.widen (k := 7) (n := 999) (Nat.le_of_ble_eq_true rfl) (Nat.le_of_ble_eq_true rfl) ?_
  refine va_putF (D := D) (ci := 5) (v := .ref z7) (ty := .array .int) (C := RX5) (T := TX5) (N := 13) hx hb hts hi_X5 tyX5 tyX5_ok nmX5 hown hK hP hD hS 0 rfl rfl 6 (by decide) hf_29 (fun _ h9 => h9) rfl hin rfl (by decide +kernel) rfl rfl (Nat.le_of_ble_eq_true rfl) dX5_init_56 (fun H locs hP hD hS => ?_)
  have hP : va_P D vwCl [(a0, .inr (5, [.ref z1, .ref z2, .ref z3, .ref z4, .ref z5, .ref z6, .ref z7, .null, .null, .int 0, .int 0, .int 0, .int 0])), (z1, .inl (cI, 99, .inl (fun _ => 0))), (z2, .inl (cI, 99, .inl (fun _ => 0))), (z3, .inl (cI, 594, .inl (fun _ => 0))), (z4, .inl (cI, 198, .inl (fun _ => 0))), (z5, .inl (cZ, 2, .inl (fun _ => 0))), (z6, .inl (cI, 4, .inl (fun _ => 0))), (z7, .inl (cI, 3, .inl (fun _ => 0)))] H := hP
  have hD : va_D A [(a0, .inr (5, [.ref z1, .ref z2, .ref z3, .ref z4, .ref z5, .ref z6, .ref z7, .null, .null, .int 0, .int 0, .int 0, .int 0])), (z1, .inl (cI, 99, .inl (fun _ => 0))), (z2, .inl (cI, 99, .inl (fun _ => 0))), (z3, .inl (cI, 594, .inl (fun _ => 0))), (z4, .inl (cI, 198, .inl (fun _ => 0))), (z5, .inl (cZ, 2, .inl (fun _ => 0))), (z6, .inl (cI, 4, .inl (fun _ => 0))), (z7, .inl (cI, 3, .inl (fun _ => 0)))] := hD
  refine lv_aload_n hx hb dX5_init_59 rfl (lv_at hl 0 rfl) ?_
  refine lv_sipush (v := 192) hx hb dX5_init_60 (by decide) ?_
  refine r_newaI (N' := 192) hx hb har_I hK hP hD hS hA (by decide) rfl (Nat.le_of_ble_eq_true rfl) (Nat.le_of_ble_eq_true rfl) (Nat.le_of_ble_eq_true rfl) dX5_init_63 (fun z8 H hP hD hS => ?_)
  have hP : va_P D vwCl [(a0, .inr (5, [.ref z1, .ref z2, .ref z3, .ref z4, .ref z5, .ref z6, .ref z7, .null, .null, .int 0, .int 0, .int 0, .int 0])), (z1, .inl (cI, 99, .inl (fun _ => 0))), (z2, .inl (cI, 99, .inl (fun _ => 0))), (z3, .inl (cI, 594, .inl (fun _ => 0))), (z4, .inl (cI, 198, .inl (fun _ => 0))), (z5, .inl (cZ, 2, .inl (fun _ => 0))), (z6, .inl (cI, 4, .inl (fun _ => 0))), (z7, .inl (cI, 3, .inl (fun _ => 0))), (z8, .inl (cI, 192, .inl (fun _ => 0)))] H := hP
  have hD : va_D A [(a0, .inr (5, [.ref z1, .ref z2, .ref z3, .ref z4, .ref z5, .ref z6, .ref z7, .null, .null, .int 0, .int 0, .int 0, .int 0])), (z1, .inl (cI, 99, .inl (fun _ => 0))), (z2, .inl (cI, 99, .inl (fun _ => 0))), (z3, .inl (cI, 594, .inl (fun _ => 0))), (z4, .inl (cI, 198, .inl (fun _ => 0))), (z5, .inl (cZ, 2, .inl (fun _ => 0))), (z6, .inl (cI, 4, .inl (fun _ => 0))), (z7, .inl (cI, 3, .inl (fun _ => 0))), (z8, .inl (cI, 192, .inl (fun _ => 0)))] := hD
  refine W.widen (k := 8) (n := 1191) (Nat.le_of_ble_eq_true rfl) (Nat.le_of_ble_eq_true rfl) ?_
  refine va_putF (D := D) (ci := 5) (v := .ref z8) (ty := .array .int) (C := RX5) (T := TX5) (N := 13) hx hb hts hi_X5 tyX5 tyX5_ok nmX5 hown hK hP hD hS 0 rfl rfl 7 (by decide) hf_32 (fun _ h9 => h9) rfl hin rfl (by decide +kernel) rfl rfl (Nat.le_of_ble_eq_true rfl) dX5_init_65 (fun H locs hP hD hS => ?_)
  have hP : va_P D vwCl [(a0, .inr (5, [.ref z1, .ref z2, .ref z3, .ref z4, .ref z5, .ref z6, .ref z7, .ref z8, .null, .int 0, .int 0, .int 0, .int 0])), (z1, .inl (cI, 99, .inl (fun _ => 0))), (z2, .inl (cI, 99, .inl (fun _ => 0))), (z3, .inl (cI, 594, .inl (fun _ => 0))), (z4, .inl (cI, 198, .inl (fun _ => 0))), (z5, .inl (cZ, 2, .inl (fun _ => 0))), (z6, .inl (cI, 4, .inl (fun _ => 0))), (z7, .inl (cI, 3, .inl (fun _ => 0))), (z8, .inl (cI, 192, .inl (fun _ => 0)))] H := hP
  have hD : va_D A [(a0, .inr (5, [.ref z1, .ref z2, .ref z3, .ref z4, .ref z5, .ref z6, .ref z7, .ref z8, .null, .int 0, .int 0, .int 0, .int 0])), (z1, .inl (cI, 99, .inl (fun _ => 0))), (z2, .inl (cI, 99, .inl (fun _ => 0))), (z3, .inl (cI, 594, .inl (fun _ => 0))), (z4, .inl (cI, 198, .inl (fun _ => 0))), (z5, .inl (cZ, 2, .inl (fun _ => 0))), (z6, .inl (cI, 4, .inl (fun _ => 0))), (z7, .inl (cI, 3, .inl (fun _ => 0))), (z8, .inl (cI, 192, .inl (fun _ => 0)))] := hD
  refine lv_aload_n hx hb dX5_init_68 rfl (lv_at hl 0 rfl) ?_
  refine lv_bipush (v := 60) hx hb dX5_init_69 (by decide) ?_
  refine r_newaC (N' := 60) hx hb har_C hK hP hD hS hA (by decide) rfl (Nat.le_of_ble_eq_true rfl) (Nat.le_of_ble_eq_true rfl) (Nat.le_of_ble_eq_true rfl) dX5_init_71 (fun z9 H hP hD hS => ?_)
  have hP : va_P D vwCl [(a0, .inr (5, [.ref z1, .ref z2, .ref z3, .ref z4, .ref z5, .ref z6, .ref z7, .ref z8, .null, .int 0, .int 0, .int 0, .int 0])), (z1, .inl (cI, 99, .inl (fun _ => 0))), (z2, .inl (cI, 99, .inl (fun _ => 0))), (z3, .inl (cI, 594, .inl (fun _ => 0))), (z4, .inl (cI, 198, .inl (fun _ => 0))), (z5, .inl (cZ, 2, .inl (fun _ => 0))), (z6, .inl (cI, 4, .inl (fun _ => 0))), (z7, .inl (cI, 3, .inl (fun _ => 0))), (z8, .inl (cI, 192, .inl (fun _ => 0))), (z9, .inl (cC, 60, .inl (fun _ => 0)))] H := hP
  have hD : va_D A [(a0, .inr (5, [.ref z1, .ref z2, .ref z3, .ref z4, .ref z5, .ref z6, .ref z7, .ref z8, .null, .int 0, .int 0, .int 0, .int 0])), (z1, .inl (cI, 99, .inl (fun _ => 0))), (z2, .inl (cI, 99, .inl (fun _ => 0))), (z3, .inl (cI, 594, .inl (fun _ => 0))), (z4, .inl (cI, 198, .inl (fun _ => 0))), (z5, .inl (cZ, 2, .inl (fun _ => 0))), (z6, .inl (cI, 4, .inl (fun _ => 0))), (z7, .inl (cI, 3, .inl (fun _ => 0))), (z8, .inl (cI, 192, .inl (fun _ => 0))), (z9, .inl (cC, 60, .inl (fun _ => 0)))] := hD
  refine W.widen (k := 9) (n := 1251) (Nat.le_of_ble_eq_true rfl) (Nat.le_of_ble_eq_true rfl) ?_
  refine va_putF (D := D) (ci := 5) (v := .ref z9) (ty := .array .char) (C := RX5) (T := TX5) (N := 13) hx hb hts hi_X5 tyX5 tyX5_ok nmX5 hown hK hP hD hS 0 rfl rfl 8 (by decide) hf_35 (fun _ h9 => h9) rfl hin rfl (by decide +kernel) rfl rfl (Nat.le_of_ble_eq_true rfl) dX5_init_73 (fun H locs hP hD hS => ?_)
  have hP : va_P D vwCl [(a0, .inr (5, [.ref z1, .ref z2, .ref z3, .ref z4, .ref z5, .ref z6, .ref z7, .ref z8, .ref z9, .int 0, .int 0, .int 0, .int 0])), (z1, .inl (cI, 99, .inl (fun _ => 0))), (z2, .inl (cI, 99, .inl (fun _ => 0))), (z3, .inl (cI, 594, .inl (fun _ => 0))), (z4, .inl (cI, 198, .inl (fun _ => 0))), (z5, .inl (cZ, 2, .inl (fun _ => 0))), (z6, .inl (cI, 4, .inl (fun _ => 0))), (z7, .inl (cI, 3, .inl (fun _ => 0))), (z8, .inl (cI, 192, .inl (fun _ => 0))), (z9, .inl (cC, 60, .inl (fun _ => 0)))] H := hP
  have hD : va_D A [(a0, .inr (5, [.ref z1, .ref z2, .ref z3, .ref z4, .ref z5, .ref z6, .ref z7, .ref z8, .ref z9, .int 0, .int 0, .int 0, .int 0])), (z1, .inl (cI, 99, .inl (fun _ => 0))), (z2, .inl (cI, 99, .inl (fun _ => 0))), (z3, .inl (cI, 594, .inl (fun _ => 0))), (z4, .inl (cI, 198, .inl (fun _ => 0))), (z5, .inl (cZ, 2, .inl (fun _ => 0))), (z6, .inl (cI, 4, .inl (fun _ => 0))), (z7, .inl (cI, 3, .inl (fun _ => 0))), (z8, .inl (cI, 192, .inl (fun _ => 0))), (z9, .inl (cC, 60, .inl (fun _ => 0)))] := hD
  refine lv_aload_n hx hb dX5_init_76 rfl (lv_at hl 0 rfl) ?_
  refine va_get (D := D) (ci := 5) (v := .ref z1) (C := RX5) (T := TX5) (N := 13) hx hb hts hi_X5 hown hK hP 0 rfl rfl 0 (by decide) hf_7 (fun _ h9 => h9) rfl dX5_init_77 ?_
  refine lv_iconst (v := 0) hx hb dX5_init_80 (by decide) ?_
  refine lv_iconst (v := 3) hx hb dX5_init_81 (by decide) ?_
  obtain ⟨y1, ey1, hny1, hsp⟩ := stoE hsp
  refine r_iast (ws' := [(a0, .inr (5, [.ref z1, .ref z2, .ref z3, .ref z4, .ref z5, .ref z6, .ref z7, .ref z8, .ref z9, .int 0, .int 0, .int 0, .int 0])), (z1, .inl (cI, 99, .inl y1)), (z2, .inl (cI, 99, .inl (fun _ => 0))), (z3, .inl (cI, 594, .inl (fun _ => 0))), (z4, .inl (cI, 198, .inl (fun _ => 0))), (z5, .inl (cZ, 2, .inl (fun _ => 0))), (z6, .inl (cI, 4, .inl (fun _ => 0))), (z7, .inl (cI, 3, .inl (fun _ => 0))), (z8, .inl (cI, 192, .inl (fun _ => 0))), (z9, .inl (cC, 60, .inl (fun _ => 0)))]) hx hb hK hP hD hS 1 0 rfl rfl ey1 hny1 rfl dX5_init_82 (fun H locs hP hD hS => ?_)
  refine lv_aload_n hx hb dX5_init_83 rfl (lv_at hl 0 rfl) ?_
  refine va_get (D := D) (ci := 5) (v := .ref z1) (C := RX5) (T := TX5) (N := 13) hx hb hts hi_X5 hown hK hP 0 rfl rfl 0 (by decide) hf_7 (fun _ h9 => h9) rfl dX5_init_84 ?_
  refine lv_iconst (v := 1) hx hb dX5_init_87 (by decide) ?_
  refine lv_bipush (v := 15) hx hb dX5_init_88 (by decide) ?_
  obtain ⟨y2, ey2, hny2, hsp⟩ := stoE hsp
  refine r_iast (ws' := [(a0, .inr (5, [.ref z1, .ref z2, .ref z3, .ref z4, .ref z5, .ref z6, .ref z7, .ref z8, .ref z9, .int 0, .int 0, .int 0, .int 0])), (z1, .inl (cI, 99, .inl y2)), (z2, .inl (cI, 99, .inl (fun _ => 0))), (z3, .inl (cI, 594, .inl (fun _ => 0))), (z4, .inl (cI, 198, .inl (fun _ => 0))), (z5, .inl (cZ, 2, .inl (fun _ => 0))), (z6, .inl (cI, 4, .inl (fun _ => 0))), (z7, .inl (cI, 3, .inl (fun _ => 0))), (z8, .inl (cI, 192, .inl (fun _ => 0))), (z9, .inl (cC, 60, .inl (fun _ => 0)))]) hx hb hK hP hD hS 1 0 rfl rfl ey2 hny2 rfl dX5_init_90 (fun H locs hP hD hS => ?_)
  have hres := Option.some.inj hsp
  subst hres
  exact W.vret hx hb hr (fun t ht hW => ⟨⟨(), rfl, trivial, (fun k => ([z1, z2, z3, z4, z5, z6, z7, z8, z9] : List Nat).getD k 0), P_at ht hP, hD⟩, hS.F ht⟩) hS.2.2 dX5_init_91

theorem nd_X5_nearest : yX5_nearest.cls = RX5 ∧ yX5_nearest.cls ≠ "java/lang/invoke/MethodHandle" ∧ yX5_nearest.cls ≠ "java/lang/invoke/VarHandle" ∧ (parseMethodDescriptor yX5_nearest.desc).map (fun d => d.parameters.length) = some 2 := by decide +kernel
set_option maxHeartbeats 8000000 in
set_option maxRecDepth 100000 in
theorem k_X5_nearest (l : Launch) (D : va_G) (cI cZ cC cS : ClassId) (sz : Nat) (a0 a1 a7 : Nat) (w0_1 : Value) (w0_2 : Value) (w0_3 : Value) (w0_4 : Value) (w0_5 : Value) (w0_7 : Value) (w0_8 : Value) (w0_9 : Value) (w0_10 : Value) (w0_11 : Value) (w0_12 : Value) (f1 : Nat → Int32) (f7 : Nat → Int32) (u1 : Int32) (u2 : Int32) (res : Int32 × (Nat → Int32)) (hsp : s_X5_nearest f1 f7 u1 u2 = some res) : Met l yX5_nearest wsX5_nearest ({ frames := 5, cells := 0, slots := 0, locals := 112 }) (va_Pc [.ref a0, .int u1, .int u2] (PB D cI cZ cC cS [(a0, .inr (5, [.ref a1, w0_1, w0_2, w0_3, w0_4, w0_5, .ref a7, w0_7, w0_8, w0_9, w0_10, w0_11, w0_12])), (a1, .inl (cI, 99, .inl f1)), (a7, .inl (cI, 3, .inl f7))] sz)) (va_Qi (fun r (_ : Unit) => r = res.1) (fun _ t => va_P D vwCl [(a0, .inr (5, [.ref a1, w0_1, w0_2, w0_3, w0_4, w0_5, .ref a7, w0_7, w0_8, w0_9, w0_10, w0_11, w0_12])), (a1, .inl (cI, 99, .inl f1)), (a7, .inl (cI, 3, .inl res.2))] t.heap) (va_A [(a0, .inr (5, [.ref a1, w0_1, w0_2, w0_3, w0_4, w0_5, .ref a7, w0_7, w0_8, w0_9, w0_10, w0_11, w0_12])), (a1, .inl (cI, 99, .inl f1)), (a7, .inl (cI, 3, .inl f7))] sz)) 0 0 (va_A [(a0, .inr (5, [.ref a1, w0_1, w0_2, w0_3, w0_4, w0_5, .ref a7, w0_7, w0_8, w0_9, w0_10, w0_11, w0_12])), (a1, .inl (cI, 99, .inl f1)), (a7, .inl (cI, 3, .inl f7))] sz) := by
  refine Met.ofW (cc := cX5_nearest) (maxL := 4) (ret := (some .int)) (by decide) rfl ?_
  intro p e s m args below meth c s₁ B hml hv
  obtain ⟨rfl, hsz, hP, hD0, hKU⟩ := hv
  have hx := B.exec
  have hb := B.bytes
  have hr := B.returns
  have hts := atoms_spec (ws := wsX5_nearest) B.pre
  have hown : s.vm.findClass RX5 = some m.cls := findClass_of_methodNamed B.named
  have hlocks := B.notSynchronized
  have hK := hKU.1
  subst hsz
  have hD := hD0.self (sz := s.heap.size)
  generalize hAe : va_A [(a0, .inr (5, [.ref a1, w0_1, w0_2, w0_3, w0_4, w0_5, .ref a7, w0_7, w0_8, w0_9, w0_10, w0_11, w0_12])), (a1, .inl (cI, 99, .inl f1)), (a7, .inl (cI, 3, .inl f7))] s.heap.size = A at hD ⊢
  have hA : ∀ q : Nat, s.heap.size ≤ q → A q := fun q h => by rw [← hAe]; exact Or.inr h
  have hP : va_P D vwCl [(a0, .inr (5, [.ref a1, w0_1, w0_2, w0_3, w0_4, w0_5, .ref a7, w0_7, w0_8, w0_9, w0_10, w0_11, w0_12])), (a1, .inl (cI, 99, .inl f1)), (a7, .inl (cI, 3, .inl f7))] s.heap := hP
  generalize hHe : s.heap = H at hP ⊢
  have hS : va_S A s.heap H [] := by rw [hHe]; exact va_S.rf
  have hl := lv_entry ([.ref a0, .int u1, .int u2]) (n := 4) (Nat.le_of_ble_eq_true rfl)
  rw [lg_entry_eq]
  generalize (lg_sl ([.ref a0, .int u1, .int u2]) ++ List.replicate (4 - (lg_sl ([.ref a0, .int u1, .int u2])).length) Slot.unset).toArray = ls at hl ⊢
  have hl : lv_has ls 4 [(0, .ref a0), (1, .int u1), (2, .int u2)] := hl
  unfold s_X5_nearest at hsp
  refine lv_iload_n hx hb dX5_nearest_0 rfl (lv_at hl 1 rfl) ?_
  obtain ⟨r1, hcr1, hsp⟩ := clE hsp
  refine call_z (w1 := []) (ws' := [(a0, .inr (5, [.ref a1, w0_1, w0_2, w0_3, w0_4, w0_5, .ref a7, w0_7, w0_8, w0_9, w0_10, w0_11, w0_12])), (a1, .inl (cI, 99, .inl f1)), (a7, .inl (cI, 3, .inl f7))]) (va_runS (As := [.int u1]) (rest := []) ⟨hx, hb, hml, hown, hts⟩ (k_X5_isPanel l D cI cZ cC cS H.size u1 r1 hcr1) (va_cwS 1 hts gX5_nearest_X5_isPanel rfl rfl rfl nd_X5_isPanel.2 ⟨Nat.le_of_ble_eq_true rfl, Nat.le_of_ble_eq_true rfl⟩) (PB.preS hKU hP hD [] rfl rfl) rfl rfl hl.1 rfl (lv_room (Nat.le_of_ble_eq_true rfl)) dX5_nearest_1 ⟨Nat.zero_le _, Nat.zero_le _⟩) hS hP hD hA [] rfl rfl (by first | (simp only [wset, List.set_cons_zero, List.set_cons_succ]; done) | rfl) rfl (fun H locs hP hD hS hzr1 => ?_)
  refine lv_if_ne (tgt := 9) hx hb dX5_nearest_4 (by decide) (fun c2 => ?_) (fun c2 => ?_)
  · have hsp := itF hsp c2
    refine lv_iload_n hx hb dX5_nearest_9 rfl (lv_at hl 2 rfl) ?_
    refine lv_iconst (v := 0) hx hb dX5_nearest_10 (by decide) ?_
    refine lv_iconst (v := 1) hx hb dX5_nearest_11 (by decide) ?_
    obtain ⟨r3, hcr3, hsp⟩ := clE hsp
    refine call_z (w1 := []) (ws' := [(a0, .inr (5, [.ref a1, w0_1, w0_2, w0_3, w0_4, w0_5, .ref a7, w0_7, w0_8, w0_9, w0_10, w0_11, w0_12])), (a1, .inl (cI, 99, .inl f1)), (a7, .inl (cI, 3, .inl f7))]) (va_runS (As := [.int u2, .int 0, .int 1]) (rest := []) ⟨hx, hb, hml, hown, hts⟩ (k_X5_in l D cI cZ cC cS H.size u2 0 1 r3 hcr3) (va_cwS 3 hts gX5_nearest_X5_in rfl rfl rfl nd_X5_in.2 ⟨Nat.le_of_ble_eq_true rfl, Nat.le_of_ble_eq_true rfl⟩) (PB.preS hKU hP hD [] rfl rfl) rfl rfl hl.1 rfl (lv_room (Nat.le_of_ble_eq_true rfl)) dX5_nearest_12 ⟨Nat.zero_le _, Nat.zero_le _⟩) hS hP hD hA [] rfl rfl (by first | (simp only [wset, List.set_cons_zero, List.set_cons_succ]; done) | rfl) rfl (fun H locs hP hD hS hzr3 => ?_)
    refine lv_if_ne (tgt := 21) hx hb dX5_nearest_15 (by decide) (fun c4 => ?_) (fun c4 => ?_)
    · have hsp := itF hsp c4
      refine lv_aload_n hx hb dX5_nearest_21 rfl (lv_at hl 0 rfl) ?_
      refine lv_iload_n hx hb dX5_nearest_22 rfl (lv_at hl 1 rfl) ?_
      obtain ⟨r5, hcr5, hsp⟩ := clE hsp
      refine call_i (w1 := [(a0, .inr (5, [.ref a1, w0_1, w0_2, w0_3, w0_4, w0_5, .ref a7, w0_7, w0_8, w0_9, w0_10, w0_11, w0_12])), (a1, .inl (cI, 99, .inl f1)), (a7, .inl (cI, 3, .inl r5.2))]) (ws' := [(a0, .inr (5, [.ref a1, w0_1, w0_2, w0_3, w0_4, w0_5, .ref a7, w0_7, w0_8, w0_9, w0_10, w0_11, w0_12])), (a1, .inl (cI, 99, .inl f1)), (a7, .inl (cI, 3, .inl r5.2))]) (va_runV (As := [.int u1]) (rest := []) ⟨hx, hb, hml, hown, hts⟩ (k_X5_nearestPot l D cI cZ cC cS H.size a0 a1 a7 (w0_1) (w0_2) (w0_3) (w0_4) (w0_5) (w0_7) (w0_8) (w0_9) (w0_10) (w0_11) (w0_12) f1 f7 u1 r5 hcr5) (cwV 1 hts gX5_nearest_X5_nearestPot rfl rfl rfl nd_X5_nearestPot ⟨Nat.le_of_ble_eq_true rfl, Nat.le_of_ble_eq_true rfl⟩) (PB.preV (ci := 5) (q0 := 0) hKU hP hD [0, 1, 2] rfl rfl rfl rfl) rfl rfl hl.1 rfl (lv_room (Nat.le_of_ble_eq_true rfl)) dX5_nearest_23 ⟨Nat.zero_le _, Nat.zero_le _⟩) hS hP hD hA [0, 1, 2] rfl rfl (by first | (simp only [wset, List.set_cons_zero, List.set_cons_succ]; done) | rfl) rfl (fun H locs hP hD hS => ?_)
      refine lv_istore_n (lv' := [(3, .int r5.1), (0, .ref a0), (1, .int u1), (2, .int u2)]) hx hb dX5_nearest_26 rfl hl (by decide) rfl (fun ls hl => ?_)
      refine lv_iload_n hx hb dX5_nearest_27 rfl (lv_at hl 0 rfl) ?_
      refine lv_bipush (v := (-6)) hx hb dX5_nearest_28 (by decide) ?_
      refine lv_icmp_eq (tgt := 37) hx hb dX5_nearest_30 (by decide) (fun c6 => ?_) (fun c6 => ?_)
      · have hsp := itT hsp c6
        refine lv_iload_n hx hb dX5_nearest_37 rfl (lv_at hl 0 rfl) ?_
        refine lv_goto (tgt := 47) hx hb dX5_nearest_38 (by decide) ?_
        have hres := Option.some.inj hsp
        subst hres
        exact W.iret (v := r5.1) hx hb hr (fun t ht hW => ⟨⟨r5.1, (), rfl, rfl, P_at ht hP⟩, hS.F ht⟩) hS.2.2 dX5_nearest_47
      have hsp := itF hsp c6
      refine lv_iload_n hx hb dX5_nearest_33 rfl (lv_at hl 3 rfl) ?_
      refine lv_if_ne (tgt := 41) hx hb dX5_nearest_34 (by decide) (fun c7 => ?_) (fun c7 => ?_)
      · have hsp := itF hsp c7
        refine lv_aload_n hx hb dX5_nearest_41 rfl (lv_at hl 1 rfl) ?_
        refine lv_iload_n hx hb dX5_nearest_42 rfl (lv_at hl 0 rfl) ?_
        refine lv_iload_n hx hb dX5_nearest_43 rfl (lv_at hl 2 rfl) ?_
        obtain ⟨r8, hcr8, hsp⟩ := clE hsp
        refine call_i (w1 := [(a0, .inr (5, [.ref a1, w0_1, w0_2, w0_3, w0_4, w0_5, .ref a7, w0_7, w0_8, w0_9, w0_10, w0_11, w0_12])), (a1, .inl (cI, 99, .inl f1)), (a7, .inl (cI, 3, .inl r8.2))]) (ws' := [(a0, .inr (5, [.ref a1, w0_1, w0_2, w0_3, w0_4, w0_5, .ref a7, w0_7, w0_8, w0_9, w0_10, w0_11, w0_12])), (a1, .inl (cI, 99, .inl f1)), (a7, .inl (cI, 3, .inl r8.2))]) (va_runV (As := [.int r5.1, .int u1]) (rest := []) ⟨hx, hb, hml, hown, hts⟩ (k_X5_distanceOf l D cI cZ cC cS H.size a0 a1 a7 (w0_1) (w0_2) (w0_3) (w0_4) (w0_5) (w0_7) (w0_8) (w0_9) (w0_10) (w0_11) (w0_12) f1 r5.2 r5.1 u1 r8 hcr8) (cwV 2 hts gX5_nearest_X5_distanceOf rfl rfl rfl nd_X5_distanceOf ⟨Nat.le_of_ble_eq_true rfl, Nat.le_of_ble_eq_true rfl⟩) (PB.preV (ci := 5) (q0 := 0) hKU hP hD [0, 1, 2] rfl rfl rfl rfl) rfl rfl hl.1 rfl (lv_room (Nat.le_of_ble_eq_true rfl)) dX5_nearest_44 ⟨Nat.zero_le _, Nat.zero_le _⟩) hS hP hD hA [0, 1, 2] rfl rfl (by first | (simp only [wset, List.set_cons_zero, List.set_cons_succ]; done) | rfl) rfl (fun H locs hP hD hS => ?_)
        have hres := Option.some.inj hsp
        subst hres
        exact W.iret (v := r8.1) hx hb hr (fun t ht hW => ⟨⟨r8.1, (), rfl, rfl, P_at ht hP⟩, hS.F ht⟩) hS.2.2 dX5_nearest_47
      have hsp := itT hsp c7
      refine lv_iload_n hx hb dX5_nearest_37 rfl (lv_at hl 0 rfl) ?_
      refine lv_goto (tgt := 47) hx hb dX5_nearest_38 (by decide) ?_
      have hres := Option.some.inj hsp
      subst hres
      exact W.iret (v := r5.1) hx hb hr (fun t ht hW => ⟨⟨r5.1, (), rfl, rfl, P_at ht hP⟩, hS.F ht⟩) hS.2.2 dX5_nearest_47
    have hsp := itT hsp c4
    refine lv_bipush (v := (-2)) hx hb dX5_nearest_18 (by decide) ?_
    have hres := Option.some.inj hsp
    subst hres
    exact W.iret (v := (-2)) hx hb hr (fun t ht hW => ⟨⟨(-2), (), rfl, rfl, P_at ht hP⟩, hS.F ht⟩) hS.2.2 dX5_nearest_20
  have hsp := itT hsp c2
  refine lv_iconst (v := (-1)) hx hb dX5_nearest_7 (by decide) ?_
  have hres := Option.some.inj hsp
  subst hres
  exact W.iret (v := (-1)) hx hb hr (fun t ht hW => ⟨⟨(-1), (), rfl, rfl, P_at ht hP⟩, hS.F ht⟩) hS.2.2 dX5_nearest_8

theorem nd_X5_paint : yX5_paint.cls = RX5 ∧ yX5_paint.cls ≠ "java/lang/invoke/MethodHandle" ∧ yX5_paint.cls ≠ "java/lang/invoke/VarHandle" ∧ (parseMethodDescriptor yX5_paint.desc).map (fun d => d.parameters.length) = some 1 := by decide +kernel
set_option maxHeartbeats 8000000 in
set_option maxRecDepth 100000 in
theorem k_X5_paint (l : Launch) (D : va_G) (cI cZ cC cS : ClassId) (sz : Nat) (a0 a1 a2 a3 a6 a7 : Nat) (w0_3 : Value) (w0_4 : Value) (w0_7 : Value) (w0_8 : Value) (w0_9 : Value) (g0_10 : Int32) (w0_11 : Value) (w0_12 : Value) (f1 : Nat → Int32) (f2 : Nat → Int32) (f3 : Nat → Int32) (f6 : Nat → Int32) (f7 : Nat → Int32) (u1 : Int32) (res : Int32 × Int32 × (Nat → Int32) × (Nat → Int32) × (Nat → Int32) × (Nat → Int32) × (Nat → Int32)) (hsp : s_X5_paint g0_10 f1 f2 f3 f6 f7 u1 = some res) : Met l yX5_paint wsX5_paint ({ frames := 4, cells := 0, slots := 0, locals := 98 }) (va_Pc [.ref a0, .int u1] (PB D cI cZ cC cS [(a0, .inr (5, [.ref a1, .ref a2, .ref a3, w0_3, w0_4, .ref a6, .ref a7, w0_7, w0_8, w0_9, .int g0_10, w0_11, w0_12])), (a1, .inl (cI, 99, .inl f1)), (a2, .inl (cI, 99, .inl f2)), (a3, .inl (cI, 594, .inl f3)), (a6, .inl (cI, 4, .inl f6)), (a7, .inl (cI, 3, .inl f7))] sz)) (va_Qi (fun r (_ : Unit) => r = res.1) (fun _ t => va_P D vwCl [(a0, .inr (5, [.ref a1, .ref a2, .ref a3, w0_3, w0_4, .ref a6, .ref a7, w0_7, w0_8, w0_9, .int res.2.1, w0_11, w0_12])), (a1, .inl (cI, 99, .inl res.2.2.1)), (a2, .inl (cI, 99, .inl res.2.2.2.1)), (a3, .inl (cI, 594, .inl res.2.2.2.2.1)), (a6, .inl (cI, 4, .inl res.2.2.2.2.2.1)), (a7, .inl (cI, 3, .inl res.2.2.2.2.2.2))] t.heap) (va_A [(a0, .inr (5, [.ref a1, .ref a2, .ref a3, w0_3, w0_4, .ref a6, .ref a7, w0_7, w0_8, w0_9, .int g0_10, w0_11, w0_12])), (a1, .inl (cI, 99, .inl f1)), (a2, .inl (cI, 99, .inl f2)), (a3, .inl (cI, 594, .inl f3)), (a6, .inl (cI, 4, .inl f6)), (a7, .inl (cI, 3, .inl f7))] sz)) 0 0 (va_A [(a0, .inr (5, [.ref a1, .ref a2, .ref a3, w0_3, w0_4, .ref a6, .ref a7, w0_7, w0_8, w0_9, .int g0_10, w0_11, w0_12])), (a1, .inl (cI, 99, .inl f1)), (a2, .inl (cI, 99, .inl f2)), (a3, .inl (cI, 594, .inl f3)), (a6, .inl (cI, 4, .inl f6)), (a7, .inl (cI, 3, .inl f7))] sz) := by
  refine Met.ofW (cc := cX5_paint) (maxL := 2) (ret := (some .int)) (by decide) rfl ?_
  intro p e s m args below meth c s₁ B hml hv
  obtain ⟨rfl, hsz, hP, hD0, hKU⟩ := hv
  have hx := B.exec
  have hb := B.bytes
  have hr := B.returns
  have hts := atoms_spec (ws := wsX5_paint) B.pre
  have hown : s.vm.findClass RX5 = some m.cls := findClass_of_methodNamed B.named
  have hlocks := B.notSynchronized
  have hK := hKU.1
  subst hsz
  have hD := hD0.self (sz := s.heap.size)
  generalize hAe : va_A [(a0, .inr (5, [.ref a1, .ref a2, .ref a3, w0_3, w0_4, .ref a6, .ref a7, w0_7, w0_8, w0_9, .int g0_10, w0_11, w0_12])), (a1, .inl (cI, 99, .inl f1)), (a2, .inl (cI, 99, .inl f2)), (a3, .inl (cI, 594, .inl f3)), (a6, .inl (cI, 4, .inl f6)), (a7, .inl (cI, 3, .inl f7))] s.heap.size = A at hD ⊢
  have hA : ∀ q : Nat, s.heap.size ≤ q → A q := fun q h => by rw [← hAe]; exact Or.inr h
  have hP : va_P D vwCl [(a0, .inr (5, [.ref a1, .ref a2, .ref a3, w0_3, w0_4, .ref a6, .ref a7, w0_7, w0_8, w0_9, .int g0_10, w0_11, w0_12])), (a1, .inl (cI, 99, .inl f1)), (a2, .inl (cI, 99, .inl f2)), (a3, .inl (cI, 594, .inl f3)), (a6, .inl (cI, 4, .inl f6)), (a7, .inl (cI, 3, .inl f7))] s.heap := hP
  generalize hHe : s.heap = H at hP ⊢
  have hS : va_S A s.heap H [] := by rw [hHe]; exact va_S.rf
  have hl := lv_entry ([.ref a0, .int u1]) (n := 2) (Nat.le_of_ble_eq_true rfl)
  rw [lg_entry_eq]
  generalize (lg_sl ([.ref a0, .int u1]) ++ List.replicate (2 - (lg_sl ([.ref a0, .int u1])).length) Slot.unset).toArray = ls at hl ⊢
  have hl : lv_has ls 2 [(0, .ref a0), (1, .int u1)] := hl
  unfold s_X5_paint at hsp
  refine lv_aload_n hx hb dX5_paint_0 rfl (lv_at hl 0 rfl) ?_
  obtain ⟨r1, hcr1, hsp⟩ := clE hsp
  refine call_v (w1 := [(a0, .inr (5, [.ref a1, .ref a2, .ref a3, w0_3, w0_4, .ref a6, .ref a7, w0_7, w0_8, w0_9, .int g0_10, w0_11, w0_12])), (a1, .inl (cI, 99, .inl f1)), (a2, .inl (cI, 99, .inl r1))]) (ws' := [(a0, .inr (5, [.ref a1, .ref a2, .ref a3, w0_3, w0_4, .ref a6, .ref a7, w0_7, w0_8, w0_9, .int g0_10, w0_11, w0_12])), (a1, .inl (cI, 99, .inl f1)), (a2, .inl (cI, 99, .inl r1)), (a3, .inl (cI, 594, .inl f3)), (a6, .inl (cI, 4, .inl f6)), (a7, .inl (cI, 3, .inl f7))]) (va_runV (As := []) (rest := []) ⟨hx, hb, hml, hown, hts⟩ (k_X5_hold l D cI cZ cC cS H.size a0 a1 a2 (.ref a3) (w0_3) (w0_4) (.ref a6) (.ref a7) (w0_7) (w0_8) (w0_9) (.int g0_10) (w0_11) (w0_12) f1 f2 r1 hcr1) (cwV 0 hts gX5_paint_X5_hold rfl rfl rfl nd_X5_hold ⟨Nat.le_of_ble_eq_true rfl, Nat.le_of_ble_eq_true rfl⟩) (PB.preV (ci := 5) (q0 := 0) hKU hP hD [0, 1, 2] rfl rfl rfl rfl) rfl rfl hl.1 rfl (lv_room (Nat.le_of_ble_eq_true rfl)) dX5_paint_1 ⟨Nat.zero_le _, Nat.zero_le _⟩) hS hP hD hA [0, 1, 2] rfl rfl (by first | (simp only [wset, List.set_cons_zero, List.set_cons_succ]; done) | rfl) rfl (fun H locs hP hD hS => ?_)
  refine lv_aload_n hx hb dX5_paint_4 rfl (lv_at hl 0 rfl) ?_
  refine lv_aload_n hx hb dX5_paint_5 rfl (lv_at hl 0 rfl) ?_
  refine lv_iload_n hx hb dX5_paint_6 rfl (lv_at hl 1 rfl) ?_
  obtain ⟨r2, hcr2, hsp⟩ := clE hsp
  refine call_i (w1 := [(a0, .inr (5, [.ref a1, .ref a2, .ref a3, w0_3, w0_4, .ref a6, .ref a7, w0_7, w0_8, w0_9, .int g0_10, w0_11, w0_12])), (a1, .inl (cI, 99, .inl r2.2.1)), (a6, .inl (cI, 4, .inl r2.2.2.1)), (a7, .inl (cI, 3, .inl r2.2.2.2))]) (ws' := [(a0, .inr (5, [.ref a1, .ref a2, .ref a3, w0_3, w0_4, .ref a6, .ref a7, w0_7, w0_8, w0_9, .int g0_10, w0_11, w0_12])), (a1, .inl (cI, 99, .inl r2.2.1)), (a2, .inl (cI, 99, .inl r1)), (a3, .inl (cI, 594, .inl f3)), (a6, .inl (cI, 4, .inl r2.2.2.1)), (a7, .inl (cI, 3, .inl r2.2.2.2))]) (va_runV (As := [.int u1]) (rest := [.ref a0]) ⟨hx, hb, hml, hown, hts⟩ (k_X5_paints l D cI cZ cC cS H.size a0 a1 a6 a7 (.ref a2) (.ref a3) (w0_3) (w0_4) (w0_7) (w0_8) (w0_9) (.int g0_10) (w0_11) (w0_12) f1 f6 f7 u1 r2 hcr2) (cwV 1 hts gX5_paint_X5_paints rfl rfl rfl nd_X5_paints ⟨Nat.le_of_ble_eq_true rfl, Nat.le_of_ble_eq_true rfl⟩) (PB.preV (ci := 5) (q0 := 0) hKU hP hD [0, 1, 4, 5] rfl rfl rfl rfl) rfl rfl hl.1 rfl (lv_room (Nat.le_of_ble_eq_true rfl)) dX5_paint_7 ⟨Nat.zero_le _, Nat.zero_le _⟩) hS hP hD hA [0, 1, 4, 5] rfl rfl (by first | (simp only [wset, List.set_cons_zero, List.set_cons_succ]; done) | rfl) rfl (fun H locs hP hD hS => ?_)
  obtain ⟨r3, hcr3, hsp⟩ := clE hsp
  refine call_i (w1 := [(a0, .inr (5, [.ref a1, .ref a2, .ref a3, w0_3, w0_4, .ref a6, .ref a7, w0_7, w0_8, w0_9, .int r3.2.1, w0_11, w0_12])), (a2, .inl (cI, 99, .inl r1)), (a3, .inl (cI, 594, .inl r3.2.2))]) (ws' := [(a0, .inr (5, [.ref a1, .ref a2, .ref a3, w0_3, w0_4, .ref a6, .ref a7, w0_7, w0_8, w0_9, .int r3.2.1, w0_11, w0_12])), (a1, .inl (cI, 99, .inl r2.2.1)), (a2, .inl (cI, 99, .inl r1)), (a3, .inl (cI, 594, .inl r3.2.2)), (a6, .inl (cI, 4, .inl r2.2.2.1)), (a7, .inl (cI, 3, .inl r2.2.2.2))]) (va_runV (As := [.int r2.1]) (rest := []) ⟨hx, hb, hml, hown, hts⟩ (k_X5_recorded l D cI cZ cC cS H.size a0 a2 a3 (.ref a1) (w0_3) (w0_4) (.ref a6) (.ref a7) (w0_7) (w0_8) (w0_9) g0_10 (w0_11) (w0_12) r1 f3 r2.1 r3 hcr3) (cwV 1 hts gX5_paint_X5_recorded rfl rfl rfl nd_X5_recorded ⟨Nat.le_of_ble_eq_true rfl, Nat.le_of_ble_eq_true rfl⟩) (PB.preV (ci := 5) (q0 := 0) hKU hP hD [0, 2, 3] rfl rfl rfl rfl) rfl rfl hl.1 rfl (lv_room (Nat.le_of_ble_eq_true rfl)) dX5_paint_10 ⟨Nat.zero_le _, Nat.zero_le _⟩) hS hP hD hA [0, 2, 3] rfl rfl (by first | (simp only [wset, List.set_cons_zero, List.set_cons_succ]; done) | rfl) rfl (fun H locs hP hD hS => ?_)
  have hres := Option.some.inj hsp
  subst hres
  exact W.iret (v := r3.1) hx hb hr (fun t ht hW => ⟨⟨r3.1, (), rfl, rfl, P_at ht hP⟩, hS.F ht⟩) hS.2.2 dX5_paint_13

theorem nd_X5_panel : yX5_panel.cls = RX5 ∧ yX5_panel.cls ≠ "java/lang/invoke/MethodHandle" ∧ yX5_panel.cls ≠ "java/lang/invoke/VarHandle" ∧ (parseMethodDescriptor yX5_panel.desc).map (fun d => d.parameters.length) = some 2 := by decide +kernel
set_option maxHeartbeats 8000000 in
set_option maxRecDepth 100000 in
theorem k_X5_panel (l : Launch) (D : va_G) (cI cZ cC cS : ClassId) (sz : Nat) (a0 a1 a7 : Nat) (w0_1 : Value) (w0_2 : Value) (w0_3 : Value) (w0_4 : Value) (w0_5 : Value) (w0_7 : Value) (w0_8 : Value) (w0_9 : Value) (w0_10 : Value) (w0_11 : Value) (w0_12 : Value) (f1 : Nat → Int32) (f7 : Nat → Int32) (u1 : Int32) (u2 : Int32) (res : Int32 × (Nat → Int32)) (hsp : s_X5_panel f1 f7 u1 u2 = some res) : Met l yX5_panel wsX5_panel ({ frames := 3, cells := 0, slots := 0, locals := 66 }) (va_Pc [.ref a0, .int u1, .int u2] (PB D cI cZ cC cS [(a0, .inr (5, [.ref a1, w0_1, w0_2, w0_3, w0_4, w0_5, .ref a7, w0_7, w0_8, w0_9, w0_10, w0_11, w0_12])), (a1, .inl (cI, 99, .inl f1)), (a7, .inl (cI, 3, .inl f7))] sz)) (va_Qi (fun r (_ : Unit) => r = res.1) (fun _ t => va_P D vwCl [(a0, .inr (5, [.ref a1, w0_1, w0_2, w0_3, w0_4, w0_5, .ref a7, w0_7, w0_8, w0_9, w0_10, w0_11, w0_12])), (a1, .inl (cI, 99, .inl f1)), (a7, .inl (cI, 3, .inl res.2))] t.heap) (va_A [(a0, .inr (5, [.ref a1, w0_1, w0_2, w0_3, w0_4, w0_5, .ref a7, w0_7, w0_8, w0_9, w0_10, w0_11, w0_12])), (a1, .inl (cI, 99, .inl f1)), (a7, .inl (cI, 3, .inl f7))] sz)) 0 0 (va_A [(a0, .inr (5, [.ref a1, w0_1, w0_2, w0_3, w0_4, w0_5, .ref a7, w0_7, w0_8, w0_9, w0_10, w0_11, w0_12])), (a1, .inl (cI, 99, .inl f1)), (a7, .inl (cI, 3, .inl f7))] sz) := by
  refine Met.ofW (cc := cX5_panel) (maxL := 5) (ret := (some .int)) (by decide) rfl ?_
  intro p e s m args below meth c s₁ B hml hv
  obtain ⟨rfl, hsz, hP, hD0, hKU⟩ := hv
  have hx := B.exec
  have hb := B.bytes
  have hr := B.returns
  have hts := atoms_spec (ws := wsX5_panel) B.pre
  have hown : s.vm.findClass RX5 = some m.cls := findClass_of_methodNamed B.named
  have hlocks := B.notSynchronized
  have hK := hKU.1
  have hf_7 := hts (.fieldLink RX5 7 "ThinnedPotsModel" "s" "[I") (by decide +kernel)
  have hi_X5 : ∀ w ∈ u_ws RX5 TX5 13, w ∈ wsX5_panel := by decide +kernel
  subst hsz
  have hD := hD0.self (sz := s.heap.size)
  generalize hAe : va_A [(a0, .inr (5, [.ref a1, w0_1, w0_2, w0_3, w0_4, w0_5, .ref a7, w0_7, w0_8, w0_9, w0_10, w0_11, w0_12])), (a1, .inl (cI, 99, .inl f1)), (a7, .inl (cI, 3, .inl f7))] s.heap.size = A at hD ⊢
  have hA : ∀ q : Nat, s.heap.size ≤ q → A q := fun q h => by rw [← hAe]; exact Or.inr h
  have hP : va_P D vwCl [(a0, .inr (5, [.ref a1, w0_1, w0_2, w0_3, w0_4, w0_5, .ref a7, w0_7, w0_8, w0_9, w0_10, w0_11, w0_12])), (a1, .inl (cI, 99, .inl f1)), (a7, .inl (cI, 3, .inl f7))] s.heap := hP
  generalize hHe : s.heap = H at hP ⊢
  have hS : va_S A s.heap H [] := by rw [hHe]; exact va_S.rf
  have hl := lv_entry ([.ref a0, .int u1, .int u2]) (n := 5) (Nat.le_of_ble_eq_true rfl)
  rw [lg_entry_eq]
  generalize (lg_sl ([.ref a0, .int u1, .int u2]) ++ List.replicate (5 - (lg_sl ([.ref a0, .int u1, .int u2])).length) Slot.unset).toArray = ls at hl ⊢
  have hl : lv_has ls 5 [(0, .ref a0), (1, .int u1), (2, .int u2)] := hl
  unfold s_X5_panel at hsp
  refine lv_iload_n hx hb dX5_panel_0 rfl (lv_at hl 1 rfl) ?_
  obtain ⟨r1, hcr1, hsp⟩ := clE hsp
  refine call_z (w1 := []) (ws' := [(a0, .inr (5, [.ref a1, w0_1, w0_2, w0_3, w0_4, w0_5, .ref a7, w0_7, w0_8, w0_9, w0_10, w0_11, w0_12])), (a1, .inl (cI, 99, .inl f1)), (a7, .inl (cI, 3, .inl f7))]) (va_runS (As := [.int u1]) (rest := []) ⟨hx, hb, hml, hown, hts⟩ (k_X5_isPanel l D cI cZ cC cS H.size u1 r1 hcr1) (va_cwS 1 hts gX5_panel_X5_isPanel rfl rfl rfl nd_X5_isPanel.2 ⟨Nat.le_of_ble_eq_true rfl, Nat.le_of_ble_eq_true rfl⟩) (PB.preS hKU hP hD [] rfl rfl) rfl rfl hl.1 rfl (lv_room (Nat.le_of_ble_eq_true rfl)) dX5_panel_1 ⟨Nat.zero_le _, Nat.zero_le _⟩) hS hP hD hA [] rfl rfl (by first | (simp only [wset, List.set_cons_zero, List.set_cons_succ]; done) | rfl) rfl (fun H locs hP hD hS hzr1 => ?_)
  refine lv_if_ne (tgt := 9) hx hb dX5_panel_4 (by decide) (fun c2 => ?_) (fun c2 => ?_)
  · have hsp := itF hsp c2
    refine lv_aload_n hx hb dX5_panel_9 rfl (lv_at hl 0 rfl) ?_
    refine lv_iload_n hx hb dX5_panel_10 rfl (lv_at hl 1 rfl) ?_
    obtain ⟨r3, hcr3, hsp⟩ := clE hsp
    refine call_z (w1 := [(a0, .inr (5, [.ref a1, w0_1, w0_2, w0_3, w0_4, w0_5, .ref a7, w0_7, w0_8, w0_9, w0_10, w0_11, w0_12])), (a1, .inl (cI, 99, .inl f1)), (a7, .inl (cI, 3, .inl r3.2))]) (ws' := [(a0, .inr (5, [.ref a1, w0_1, w0_2, w0_3, w0_4, w0_5, .ref a7, w0_7, w0_8, w0_9, w0_10, w0_11, w0_12])), (a1, .inl (cI, 99, .inl f1)), (a7, .inl (cI, 3, .inl r3.2))]) (va_runV (As := [.int u1]) (rest := []) ⟨hx, hb, hml, hown, hts⟩ (k_X5_isWell l D cI cZ cC cS H.size a0 a1 a7 (w0_1) (w0_2) (w0_3) (w0_4) (w0_5) (w0_7) (w0_8) (w0_9) (w0_10) (w0_11) (w0_12) f1 f7 u1 r3 hcr3) (cwV 1 hts gX5_panel_X5_isWell rfl rfl rfl nd_X5_isWell ⟨Nat.le_of_ble_eq_true rfl, Nat.le_of_ble_eq_true rfl⟩) (PB.preV (ci := 5) (q0 := 0) hKU hP hD [0, 1, 2] rfl rfl rfl rfl) rfl rfl hl.1 rfl (lv_room (Nat.le_of_ble_eq_true rfl)) dX5_panel_11 ⟨Nat.zero_le _, Nat.zero_le _⟩) hS hP hD hA [0, 1, 2] rfl rfl (by first | (simp only [wset, List.set_cons_zero, List.set_cons_succ]; done) | rfl) rfl (fun H locs hP hD hS hzr3 => ?_)
    refine lv_istore_n (lv' := [(3, .int r3.1), (0, .ref a0), (1, .int u1), (2, .int u2)]) hx hb dX5_panel_14 rfl hl (by decide) rfl (fun ls hl => ?_)
    refine lv_aload_n hx hb dX5_panel_15 rfl (lv_at hl 1 rfl) ?_
    refine va_get (D := D) (ci := 5) (v := .ref a1) (C := RX5) (T := TX5) (N := 13) hx hb hts hi_X5 hown hK hP 0 rfl rfl 0 (by decide) hf_7 (fun _ h9 => h9) rfl dX5_panel_16 ?_
    refine lv_iload_n hx hb dX5_panel_19 rfl (lv_at hl 2 rfl) ?_
    obtain ⟨r4, hcr4, hsp⟩ := clE hsp
    refine call_i (w1 := []) (ws' := [(a0, .inr (5, [.ref a1, w0_1, w0_2, w0_3, w0_4, w0_5, .ref a7, w0_7, w0_8, w0_9, w0_10, w0_11, w0_12])), (a1, .inl (cI, 99, .inl f1)), (a7, .inl (cI, 3, .inl r3.2))]) (va_runS (As := [.int u1]) (rest := [.ref a1]) ⟨hx, hb, hml, hown, hts⟩ (k_X5_n l D cI cZ cC cS H.size u1 r4 hcr4) (va_cwS 1 hts gX5_panel_X5_n rfl rfl rfl nd_X5_n.2 ⟨Nat.le_of_ble_eq_true rfl, Nat.le_of_ble_eq_true rfl⟩) (PB.preS hKU hP hD [] rfl rfl) rfl rfl hl.1 rfl (lv_room (Nat.le_of_ble_eq_true rfl)) dX5_panel_20 ⟨Nat.zero_le _, Nat.zero_le _⟩) hS hP hD hA [] rfl rfl (by first | (simp only [wset, List.set_cons_zero, List.set_cons_succ]; done) | rfl) rfl (fun H locs hP hD hS => ?_)
    refine lv_iconst (v := 3) hx hb dX5_panel_23 (by decide) ?_
    refine lv_iadd hx hb dX5_panel_24 ?_
    obtain ⟨x5, ex5, hnx5, hsp⟩ := ldE hsp
    refine r_iald hx hb hK hP 1 0 rfl rfl ex5 hnx5 dX5_panel_25 ?_
    refine lv_iconst (v := 1) hx hb dX5_panel_26 (by decide) ?_
    refine lv_icmp_ne (tgt := 34) hx hb dX5_panel_27 (by decide) (fun c6 => ?_) (fun c6 => ?_)
    · have hsp := itF hsp c6
      refine lv_iconst (v := 0) hx hb dX5_panel_34 (by decide) ?_
      refine lv_istore (lv' := [(4, .int 0), (3, .int r3.1), (0, .ref a0), (1, .int u1), (2, .int u2)]) hx hb dX5_panel_35 hl (by decide) rfl (fun ls hl => ?_)
      refine lv_iload_n hx hb dX5_panel_37 rfl (lv_at hl 4 rfl) ?_
      by_cases c7 : u2 = 0
      · have hsp := itT hsp c7
        refine lv_tableIn (off := 50) (tgt := 88) hx hb dX5_panel_38 (by rw [c7]; decide) (by rw [c7]; decide) (by rw [c7]; decide) (by decide) ?_
        refine lv_aload_n hx hb dX5_panel_88 rfl (lv_at hl 2 rfl) ?_
        refine va_get (D := D) (ci := 5) (v := .ref a1) (C := RX5) (T := TX5) (N := 13) hx hb hts hi_X5 hown hK hP 0 rfl rfl 0 (by decide) hf_7 (fun _ h9 => h9) rfl dX5_panel_89 ?_
        refine lv_iload_n hx hb dX5_panel_92 rfl (lv_at hl 3 rfl) ?_
        obtain ⟨r8, hcr8, hsp⟩ := clE hsp
        refine call_i (w1 := []) (ws' := [(a0, .inr (5, [.ref a1, w0_1, w0_2, w0_3, w0_4, w0_5, .ref a7, w0_7, w0_8, w0_9, w0_10, w0_11, w0_12])), (a1, .inl (cI, 99, .inl f1)), (a7, .inl (cI, 3, .inl r3.2))]) (va_runS (As := [.int u1]) (rest := [.ref a1]) ⟨hx, hb, hml, hown, hts⟩ (k_X5_n l D cI cZ cC cS H.size u1 r8 hcr8) (va_cwS 1 hts gX5_panel_X5_n rfl rfl rfl nd_X5_n.2 ⟨Nat.le_of_ble_eq_true rfl, Nat.le_of_ble_eq_true rfl⟩) (PB.preS hKU hP hD [] rfl rfl) rfl rfl hl.1 rfl (lv_room (Nat.le_of_ble_eq_true rfl)) dX5_panel_93 ⟨Nat.zero_le _, Nat.zero_le _⟩) hS hP hD hA [] rfl rfl (by first | (simp only [wset, List.set_cons_zero, List.set_cons_succ]; done) | rfl) rfl (fun H locs hP hD hS => ?_)
        refine lv_iload_n hx hb dX5_panel_96 rfl (lv_at hl 4 rfl) ?_
        refine lv_iadd hx hb dX5_panel_97 ?_
        obtain ⟨x9, ex9, hnx9, hsp⟩ := ldE hsp
        refine r_iald hx hb hK hP 1 0 rfl rfl ex9 hnx9 dX5_panel_98 ?_
        have hres := Option.some.inj hsp
        subst hres
        exact W.iret (v := x9) hx hb hr (fun t ht hW => ⟨⟨x9, (), rfl, rfl, P_at ht hP⟩, hS.F ht⟩) hS.2.2 dX5_panel_99
      have hsp := itF hsp c7
      by_cases c10 : u2 = 1
      · have hsp := itT hsp c10
        refine lv_tableIn (off := 50) (tgt := 88) hx hb dX5_panel_38 (by rw [c10]; decide) (by rw [c10]; decide) (by rw [c10]; decide) (by decide) ?_
        refine lv_aload_n hx hb dX5_panel_88 rfl (lv_at hl 2 rfl) ?_
        refine va_get (D := D) (ci := 5) (v := .ref a1) (C := RX5) (T := TX5) (N := 13) hx hb hts hi_X5 hown hK hP 0 rfl rfl 0 (by decide) hf_7 (fun _ h9 => h9) rfl dX5_panel_89 ?_
        refine lv_iload_n hx hb dX5_panel_92 rfl (lv_at hl 3 rfl) ?_
        obtain ⟨r11, hcr11, hsp⟩ := clE hsp
        refine call_i (w1 := []) (ws' := [(a0, .inr (5, [.ref a1, w0_1, w0_2, w0_3, w0_4, w0_5, .ref a7, w0_7, w0_8, w0_9, w0_10, w0_11, w0_12])), (a1, .inl (cI, 99, .inl f1)), (a7, .inl (cI, 3, .inl r3.2))]) (va_runS (As := [.int u1]) (rest := [.ref a1]) ⟨hx, hb, hml, hown, hts⟩ (k_X5_n l D cI cZ cC cS H.size u1 r11 hcr11) (va_cwS 1 hts gX5_panel_X5_n rfl rfl rfl nd_X5_n.2 ⟨Nat.le_of_ble_eq_true rfl, Nat.le_of_ble_eq_true rfl⟩) (PB.preS hKU hP hD [] rfl rfl) rfl rfl hl.1 rfl (lv_room (Nat.le_of_ble_eq_true rfl)) dX5_panel_93 ⟨Nat.zero_le _, Nat.zero_le _⟩) hS hP hD hA [] rfl rfl (by first | (simp only [wset, List.set_cons_zero, List.set_cons_succ]; done) | rfl) rfl (fun H locs hP hD hS => ?_)
        refine lv_iload_n hx hb dX5_panel_96 rfl (lv_at hl 4 rfl) ?_
        refine lv_iadd hx hb dX5_panel_97 ?_
        obtain ⟨x12, ex12, hnx12, hsp⟩ := ldE hsp
        refine r_iald hx hb hK hP 1 0 rfl rfl ex12 hnx12 dX5_panel_98 ?_
        have hres := Option.some.inj hsp
        subst hres
        exact W.iret (v := x12) hx hb hr (fun t ht hW => ⟨⟨x12, (), rfl, rfl, P_at ht hP⟩, hS.F ht⟩) hS.2.2 dX5_panel_99
      have hsp := itF hsp c10
      by_cases c13 : u2 = 2
      · have hsp := itT hsp c13
        refine lv_tableIn (off := 50) (tgt := 88) hx hb dX5_panel_38 (by rw [c13]; decide) (by rw [c13]; decide) (by rw [c13]; decide) (by decide) ?_
        refine lv_aload_n hx hb dX5_panel_88 rfl (lv_at hl 2 rfl) ?_
        refine va_get (D := D) (ci := 5) (v := .ref a1) (C := RX5) (T := TX5) (N := 13) hx hb hts hi_X5 hown hK hP 0 rfl rfl 0 (by decide) hf_7 (fun _ h9 => h9) rfl dX5_panel_89 ?_
        refine lv_iload_n hx hb dX5_panel_92 rfl (lv_at hl 3 rfl) ?_
        obtain ⟨r14, hcr14, hsp⟩ := clE hsp
        refine call_i (w1 := []) (ws' := [(a0, .inr (5, [.ref a1, w0_1, w0_2, w0_3, w0_4, w0_5, .ref a7, w0_7, w0_8, w0_9, w0_10, w0_11, w0_12])), (a1, .inl (cI, 99, .inl f1)), (a7, .inl (cI, 3, .inl r3.2))]) (va_runS (As := [.int u1]) (rest := [.ref a1]) ⟨hx, hb, hml, hown, hts⟩ (k_X5_n l D cI cZ cC cS H.size u1 r14 hcr14) (va_cwS 1 hts gX5_panel_X5_n rfl rfl rfl nd_X5_n.2 ⟨Nat.le_of_ble_eq_true rfl, Nat.le_of_ble_eq_true rfl⟩) (PB.preS hKU hP hD [] rfl rfl) rfl rfl hl.1 rfl (lv_room (Nat.le_of_ble_eq_true rfl)) dX5_panel_93 ⟨Nat.zero_le _, Nat.zero_le _⟩) hS hP hD hA [] rfl rfl (by first | (simp only [wset, List.set_cons_zero, List.set_cons_succ]; done) | rfl) rfl (fun H locs hP hD hS => ?_)
        refine lv_iload_n hx hb dX5_panel_96 rfl (lv_at hl 4 rfl) ?_
        refine lv_iadd hx hb dX5_panel_97 ?_
        obtain ⟨x15, ex15, hnx15, hsp⟩ := ldE hsp
        refine r_iald hx hb hK hP 1 0 rfl rfl ex15 hnx15 dX5_panel_98 ?_
        have hres := Option.some.inj hsp
        subst hres
        exact W.iret (v := x15) hx hb hr (fun t ht hW => ⟨⟨x15, (), rfl, rfl, P_at ht hP⟩, hS.F ht⟩) hS.2.2 dX5_panel_99
      have hsp := itF hsp c13
      by_cases c16 : u2 = 3
      · have hsp := itT hsp c16
        refine lv_tableIn (off := 62) (tgt := 100) hx hb dX5_panel_38 (by rw [c16]; decide) (by rw [c16]; decide) (by rw [c16]; decide) (by decide) ?_
        refine lv_iload hx hb dX5_panel_100 (lv_at hl 0 rfl) ?_
        refine lv_if_eq (tgt := 123) hx hb dX5_panel_102 (by decide) (fun _ => ?_) (fun hc => absurd hc (by decide))
        refine lv_bipush (v := (-6)) hx hb dX5_panel_123 (by decide) ?_
        have hres := Option.some.inj hsp
        subst hres
        exact W.iret (v := (-6)) hx hb hr (fun t ht hW => ⟨⟨(-6), (), rfl, rfl, P_at ht hP⟩, hS.F ht⟩) hS.2.2 dX5_panel_125
      have hsp := itF hsp c16
      by_cases c17 : u2 = 4
      · have hsp := itT hsp c17
        refine lv_tableIn (off := 62) (tgt := 100) hx hb dX5_panel_38 (by rw [c17]; decide) (by rw [c17]; decide) (by rw [c17]; decide) (by decide) ?_
        refine lv_iload hx hb dX5_panel_100 (lv_at hl 0 rfl) ?_
        refine lv_if_eq (tgt := 123) hx hb dX5_panel_102 (by decide) (fun _ => ?_) (fun hc => absurd hc (by decide))
        refine lv_bipush (v := (-6)) hx hb dX5_panel_123 (by decide) ?_
        have hres := Option.some.inj hsp
        subst hres
        exact W.iret (v := (-6)) hx hb hr (fun t ht hW => ⟨⟨(-6), (), rfl, rfl, P_at ht hP⟩, hS.F ht⟩) hS.2.2 dX5_panel_125
      have hsp := itF hsp c17
      by_cases c18 : u2 = 5
      · have hsp := itT hsp c18
        refine lv_tableIn (off := 62) (tgt := 100) hx hb dX5_panel_38 (by rw [c18]; decide) (by rw [c18]; decide) (by rw [c18]; decide) (by decide) ?_
        refine lv_iload hx hb dX5_panel_100 (lv_at hl 0 rfl) ?_
        refine lv_if_eq (tgt := 123) hx hb dX5_panel_102 (by decide) (fun _ => ?_) (fun hc => absurd hc (by decide))
        refine lv_bipush (v := (-6)) hx hb dX5_panel_123 (by decide) ?_
        have hres := Option.some.inj hsp
        subst hres
        exact W.iret (v := (-6)) hx hb hr (fun t ht hW => ⟨⟨(-6), (), rfl, rfl, P_at ht hP⟩, hS.F ht⟩) hS.2.2 dX5_panel_125
      have hsp := itF hsp c18
      by_cases c19 : u2 = 6
      · have hsp := itT hsp c19
        refine lv_tableIn (off := 88) (tgt := 126) hx hb dX5_panel_38 (by rw [c19]; decide) (by rw [c19]; decide) (by rw [c19]; decide) (by decide) ?_
        refine lv_iload hx hb dX5_panel_126 (lv_at hl 0 rfl) ?_
        refine lv_if_eq (tgt := 139) hx hb dX5_panel_128 (by decide) (fun _ => ?_) (fun hc => absurd hc (by decide))
        refine lv_bipush (v := (-6)) hx hb dX5_panel_139 (by decide) ?_
        have hres := Option.some.inj hsp
        subst hres
        exact W.iret (v := (-6)) hx hb hr (fun t ht hW => ⟨⟨(-6), (), rfl, rfl, P_at ht hP⟩, hS.F ht⟩) hS.2.2 dX5_panel_141
      have hsp := itF hsp c19
      by_cases c20 : u2 = 7
      · have hsp := itT hsp c20
        refine lv_tableIn (off := 104) (tgt := 142) hx hb dX5_panel_38 (by rw [c20]; decide) (by rw [c20]; decide) (by rw [c20]; decide) (by decide) ?_
        refine lv_iload_n hx hb dX5_panel_142 rfl (lv_at hl 1 rfl) ?_
        refine lv_if_eq (tgt := 150) hx hb dX5_panel_143 (by decide) (fun c21 => ?_) (fun c21 => ?_)
        · have hsp := itT hsp c21
          refine lv_iconst (v := 0) hx hb dX5_panel_150 (by decide) ?_
          have hres := Option.some.inj hsp
          subst hres
          exact W.iret (v := 0) hx hb hr (fun t ht hW => ⟨⟨0, (), rfl, rfl, P_at ht hP⟩, hS.F ht⟩) hS.2.2 dX5_panel_151
        have hsp := itF hsp c21
        refine lv_iconst (v := 1) hx hb dX5_panel_146 (by decide) ?_
        refine lv_goto (tgt := 151) hx hb dX5_panel_147 (by decide) ?_
        have hres := Option.some.inj hsp
        subst hres
        exact W.iret (v := 1) hx hb hr (fun t ht hW => ⟨⟨1, (), rfl, rfl, P_at ht hP⟩, hS.F ht⟩) hS.2.2 dX5_panel_151
      have hsp := itF hsp c20
      by_cases c22 : u2 = 8
      · have hsp := itT hsp c22
        refine lv_tableIn (off := 114) (tgt := 152) hx hb dX5_panel_38 (by rw [c22]; decide) (by rw [c22]; decide) (by rw [c22]; decide) (by decide) ?_
        refine lv_aload_n hx hb dX5_panel_152 rfl (lv_at hl 2 rfl) ?_
        refine va_get (D := D) (ci := 5) (v := .ref a1) (C := RX5) (T := TX5) (N := 13) hx hb hts hi_X5 hown hK hP 0 rfl rfl 0 (by decide) hf_7 (fun _ h9 => h9) rfl dX5_panel_153 ?_
        refine lv_iload_n hx hb dX5_panel_156 rfl (lv_at hl 3 rfl) ?_
        obtain ⟨r23, hcr23, hsp⟩ := clE hsp
        refine call_i (w1 := []) (ws' := [(a0, .inr (5, [.ref a1, w0_1, w0_2, w0_3, w0_4, w0_5, .ref a7, w0_7, w0_8, w0_9, w0_10, w0_11, w0_12])), (a1, .inl (cI, 99, .inl f1)), (a7, .inl (cI, 3, .inl r3.2))]) (va_runS (As := [.int u1]) (rest := [.ref a1]) ⟨hx, hb, hml, hown, hts⟩ (k_X5_n l D cI cZ cC cS H.size u1 r23 hcr23) (va_cwS 1 hts gX5_panel_X5_n rfl rfl rfl nd_X5_n.2 ⟨Nat.le_of_ble_eq_true rfl, Nat.le_of_ble_eq_true rfl⟩) (PB.preS hKU hP hD [] rfl rfl) rfl rfl hl.1 rfl (lv_room (Nat.le_of_ble_eq_true rfl)) dX5_panel_157 ⟨Nat.zero_le _, Nat.zero_le _⟩) hS hP hD hA [] rfl rfl (by first | (simp only [wset, List.set_cons_zero, List.set_cons_succ]; done) | rfl) rfl (fun H locs hP hD hS => ?_)
        refine lv_bipush (v := 7) hx hb dX5_panel_160 (by decide) ?_
        refine lv_iadd hx hb dX5_panel_162 ?_
        obtain ⟨x24, ex24, hnx24, hsp⟩ := ldE hsp
        refine r_iald hx hb hK hP 1 0 rfl rfl ex24 hnx24 dX5_panel_163 ?_
        have hres := Option.some.inj hsp
        subst hres
        exact W.iret (v := x24) hx hb hr (fun t ht hW => ⟨⟨x24, (), rfl, rfl, P_at ht hP⟩, hS.F ht⟩) hS.2.2 dX5_panel_164
      have hsp := itF hsp c22
      have tc7 := lv_neT (a := 0) c7 (by decide)
      have tc10 := lv_neT (a := 1) c10 (by decide)
      have tc13 := lv_neT (a := 2) c13 (by decide)
      have tc16 := lv_neT (a := 3) c16 (by decide)
      have tc17 := lv_neT (a := 4) c17 (by decide)
      have tc18 := lv_neT (a := 5) c18 (by decide)
      have tc19 := lv_neT (a := 6) c19 (by decide)
      have tc20 := lv_neT (a := 7) c20 (by decide)
      have tc22 := lv_neT (a := 8) c22 (by decide)
      refine lv_tableOut (tgt := 165) hx hb dX5_panel_38 (by omega) (by decide) ?_
      refine lv_bipush (v := (-2)) hx hb dX5_panel_165 (by decide) ?_
      have hres := Option.some.inj hsp
      subst hres
      exact W.iret (v := (-2)) hx hb hr (fun t ht hW => ⟨⟨(-2), (), rfl, rfl, P_at ht hP⟩, hS.F ht⟩) hS.2.2 dX5_panel_167
    have hsp := itT hsp c6
    refine lv_iconst (v := 1) hx hb dX5_panel_30 (by decide) ?_
    refine lv_goto (tgt := 35) hx hb dX5_panel_31 (by decide) ?_
    refine lv_istore (lv' := [(4, .int 1), (3, .int r3.1), (0, .ref a0), (1, .int u1), (2, .int u2)]) hx hb dX5_panel_35 hl (by decide) rfl (fun ls hl => ?_)
    refine lv_iload_n hx hb dX5_panel_37 rfl (lv_at hl 4 rfl) ?_
    by_cases c25 : u2 = 0
    · have hsp := itT hsp c25
      refine lv_tableIn (off := 50) (tgt := 88) hx hb dX5_panel_38 (by rw [c25]; decide) (by rw [c25]; decide) (by rw [c25]; decide) (by decide) ?_
      refine lv_aload_n hx hb dX5_panel_88 rfl (lv_at hl 2 rfl) ?_
      refine va_get (D := D) (ci := 5) (v := .ref a1) (C := RX5) (T := TX5) (N := 13) hx hb hts hi_X5 hown hK hP 0 rfl rfl 0 (by decide) hf_7 (fun _ h9 => h9) rfl dX5_panel_89 ?_
      refine lv_iload_n hx hb dX5_panel_92 rfl (lv_at hl 3 rfl) ?_
      obtain ⟨r26, hcr26, hsp⟩ := clE hsp
      refine call_i (w1 := []) (ws' := [(a0, .inr (5, [.ref a1, w0_1, w0_2, w0_3, w0_4, w0_5, .ref a7, w0_7, w0_8, w0_9, w0_10, w0_11, w0_12])), (a1, .inl (cI, 99, .inl f1)), (a7, .inl (cI, 3, .inl r3.2))]) (va_runS (As := [.int u1]) (rest := [.ref a1]) ⟨hx, hb, hml, hown, hts⟩ (k_X5_n l D cI cZ cC cS H.size u1 r26 hcr26) (va_cwS 1 hts gX5_panel_X5_n rfl rfl rfl nd_X5_n.2 ⟨Nat.le_of_ble_eq_true rfl, Nat.le_of_ble_eq_true rfl⟩) (PB.preS hKU hP hD [] rfl rfl) rfl rfl hl.1 rfl (lv_room (Nat.le_of_ble_eq_true rfl)) dX5_panel_93 ⟨Nat.zero_le _, Nat.zero_le _⟩) hS hP hD hA [] rfl rfl (by first | (simp only [wset, List.set_cons_zero, List.set_cons_succ]; done) | rfl) rfl (fun H locs hP hD hS => ?_)
      refine lv_iload_n hx hb dX5_panel_96 rfl (lv_at hl 4 rfl) ?_
      refine lv_iadd hx hb dX5_panel_97 ?_
      obtain ⟨x27, ex27, hnx27, hsp⟩ := ldE hsp
      refine r_iald hx hb hK hP 1 0 rfl rfl ex27 hnx27 dX5_panel_98 ?_
      have hres := Option.some.inj hsp
      subst hres
      exact W.iret (v := x27) hx hb hr (fun t ht hW => ⟨⟨x27, (), rfl, rfl, P_at ht hP⟩, hS.F ht⟩) hS.2.2 dX5_panel_99
    have hsp := itF hsp c25
    by_cases c28 : u2 = 1
    · have hsp := itT hsp c28
      refine lv_tableIn (off := 50) (tgt := 88) hx hb dX5_panel_38 (by rw [c28]; decide) (by rw [c28]; decide) (by rw [c28]; decide) (by decide) ?_
      refine lv_aload_n hx hb dX5_panel_88 rfl (lv_at hl 2 rfl) ?_
      refine va_get (D := D) (ci := 5) (v := .ref a1) (C := RX5) (T := TX5) (N := 13) hx hb hts hi_X5 hown hK hP 0 rfl rfl 0 (by decide) hf_7 (fun _ h9 => h9) rfl dX5_panel_89 ?_
      refine lv_iload_n hx hb dX5_panel_92 rfl (lv_at hl 3 rfl) ?_
      obtain ⟨r29, hcr29, hsp⟩ := clE hsp
      refine call_i (w1 := []) (ws' := [(a0, .inr (5, [.ref a1, w0_1, w0_2, w0_3, w0_4, w0_5, .ref a7, w0_7, w0_8, w0_9, w0_10, w0_11, w0_12])), (a1, .inl (cI, 99, .inl f1)), (a7, .inl (cI, 3, .inl r3.2))]) (va_runS (As := [.int u1]) (rest := [.ref a1]) ⟨hx, hb, hml, hown, hts⟩ (k_X5_n l D cI cZ cC cS H.size u1 r29 hcr29) (va_cwS 1 hts gX5_panel_X5_n rfl rfl rfl nd_X5_n.2 ⟨Nat.le_of_ble_eq_true rfl, Nat.le_of_ble_eq_true rfl⟩) (PB.preS hKU hP hD [] rfl rfl) rfl rfl hl.1 rfl (lv_room (Nat.le_of_ble_eq_true rfl)) dX5_panel_93 ⟨Nat.zero_le _, Nat.zero_le _⟩) hS hP hD hA [] rfl rfl (by first | (simp only [wset, List.set_cons_zero, List.set_cons_succ]; done) | rfl) rfl (fun H locs hP hD hS => ?_)
      refine lv_iload_n hx hb dX5_panel_96 rfl (lv_at hl 4 rfl) ?_
      refine lv_iadd hx hb dX5_panel_97 ?_
      obtain ⟨x30, ex30, hnx30, hsp⟩ := ldE hsp
      refine r_iald hx hb hK hP 1 0 rfl rfl ex30 hnx30 dX5_panel_98 ?_
      have hres := Option.some.inj hsp
      subst hres
      exact W.iret (v := x30) hx hb hr (fun t ht hW => ⟨⟨x30, (), rfl, rfl, P_at ht hP⟩, hS.F ht⟩) hS.2.2 dX5_panel_99
    have hsp := itF hsp c28
    by_cases c31 : u2 = 2
    · have hsp := itT hsp c31
      refine lv_tableIn (off := 50) (tgt := 88) hx hb dX5_panel_38 (by rw [c31]; decide) (by rw [c31]; decide) (by rw [c31]; decide) (by decide) ?_
      refine lv_aload_n hx hb dX5_panel_88 rfl (lv_at hl 2 rfl) ?_
      refine va_get (D := D) (ci := 5) (v := .ref a1) (C := RX5) (T := TX5) (N := 13) hx hb hts hi_X5 hown hK hP 0 rfl rfl 0 (by decide) hf_7 (fun _ h9 => h9) rfl dX5_panel_89 ?_
      refine lv_iload_n hx hb dX5_panel_92 rfl (lv_at hl 3 rfl) ?_
      obtain ⟨r32, hcr32, hsp⟩ := clE hsp
      refine call_i (w1 := []) (ws' := [(a0, .inr (5, [.ref a1, w0_1, w0_2, w0_3, w0_4, w0_5, .ref a7, w0_7, w0_8, w0_9, w0_10, w0_11, w0_12])), (a1, .inl (cI, 99, .inl f1)), (a7, .inl (cI, 3, .inl r3.2))]) (va_runS (As := [.int u1]) (rest := [.ref a1]) ⟨hx, hb, hml, hown, hts⟩ (k_X5_n l D cI cZ cC cS H.size u1 r32 hcr32) (va_cwS 1 hts gX5_panel_X5_n rfl rfl rfl nd_X5_n.2 ⟨Nat.le_of_ble_eq_true rfl, Nat.le_of_ble_eq_true rfl⟩) (PB.preS hKU hP hD [] rfl rfl) rfl rfl hl.1 rfl (lv_room (Nat.le_of_ble_eq_true rfl)) dX5_panel_93 ⟨Nat.zero_le _, Nat.zero_le _⟩) hS hP hD hA [] rfl rfl (by first | (simp only [wset, List.set_cons_zero, List.set_cons_succ]; done) | rfl) rfl (fun H locs hP hD hS => ?_)
      refine lv_iload_n hx hb dX5_panel_96 rfl (lv_at hl 4 rfl) ?_
      refine lv_iadd hx hb dX5_panel_97 ?_
      obtain ⟨x33, ex33, hnx33, hsp⟩ := ldE hsp
      refine r_iald hx hb hK hP 1 0 rfl rfl ex33 hnx33 dX5_panel_98 ?_
      have hres := Option.some.inj hsp
      subst hres
      exact W.iret (v := x33) hx hb hr (fun t ht hW => ⟨⟨x33, (), rfl, rfl, P_at ht hP⟩, hS.F ht⟩) hS.2.2 dX5_panel_99
    have hsp := itF hsp c31
    by_cases c34 : u2 = 3
    · have hsp := itT hsp c34
      refine lv_tableIn (off := 62) (tgt := 100) hx hb dX5_panel_38 (by rw [c34]; decide) (by rw [c34]; decide) (by rw [c34]; decide) (by decide) ?_
      refine lv_iload hx hb dX5_panel_100 (lv_at hl 0 rfl) ?_
      refine lv_if_eq (tgt := 123) hx hb dX5_panel_102 (by decide) (fun hc => absurd hc (by decide)) (fun _ => ?_)
      refine lv_aload_n hx hb dX5_panel_105 rfl (lv_at hl 2 rfl) ?_
      refine va_get (D := D) (ci := 5) (v := .ref a1) (C := RX5) (T := TX5) (N := 13) hx hb hts hi_X5 hown hK hP 0 rfl rfl 0 (by decide) hf_7 (fun _ h9 => h9) rfl dX5_panel_106 ?_
      refine lv_iload_n hx hb dX5_panel_109 rfl (lv_at hl 3 rfl) ?_
      obtain ⟨r35, hcr35, hsp⟩ := clE hsp
      refine call_i (w1 := []) (ws' := [(a0, .inr (5, [.ref a1, w0_1, w0_2, w0_3, w0_4, w0_5, .ref a7, w0_7, w0_8, w0_9, w0_10, w0_11, w0_12])), (a1, .inl (cI, 99, .inl f1)), (a7, .inl (cI, 3, .inl r3.2))]) (va_runS (As := [.int u1]) (rest := [.ref a1]) ⟨hx, hb, hml, hown, hts⟩ (k_X5_n l D cI cZ cC cS H.size u1 r35 hcr35) (va_cwS 1 hts gX5_panel_X5_n rfl rfl rfl nd_X5_n.2 ⟨Nat.le_of_ble_eq_true rfl, Nat.le_of_ble_eq_true rfl⟩) (PB.preS hKU hP hD [] rfl rfl) rfl rfl hl.1 rfl (lv_room (Nat.le_of_ble_eq_true rfl)) dX5_panel_110 ⟨Nat.zero_le _, Nat.zero_le _⟩) hS hP hD hA [] rfl rfl (by first | (simp only [wset, List.set_cons_zero, List.set_cons_succ]; done) | rfl) rfl (fun H locs hP hD hS => ?_)
      refine lv_iconst (v := 4) hx hb dX5_panel_113 (by decide) ?_
      refine lv_iadd hx hb dX5_panel_114 ?_
      refine lv_iload_n hx hb dX5_panel_115 rfl (lv_at hl 4 rfl) ?_
      refine lv_iadd hx hb dX5_panel_116 ?_
      refine lv_iconst (v := 3) hx hb dX5_panel_117 (by decide) ?_
      refine lv_isub hx hb dX5_panel_118 ?_
      obtain ⟨x36, ex36, hnx36, hsp⟩ := ldE hsp
      refine r_iald hx hb hK hP 1 0 rfl rfl ex36 hnx36 dX5_panel_119 ?_
      refine lv_goto (tgt := 125) hx hb dX5_panel_120 (by decide) ?_
      have hres := Option.some.inj hsp
      subst hres
      exact W.iret (v := x36) hx hb hr (fun t ht hW => ⟨⟨x36, (), rfl, rfl, P_at ht hP⟩, hS.F ht⟩) hS.2.2 dX5_panel_125
    have hsp := itF hsp c34
    by_cases c37 : u2 = 4
    · have hsp := itT hsp c37
      refine lv_tableIn (off := 62) (tgt := 100) hx hb dX5_panel_38 (by rw [c37]; decide) (by rw [c37]; decide) (by rw [c37]; decide) (by decide) ?_
      refine lv_iload hx hb dX5_panel_100 (lv_at hl 0 rfl) ?_
      refine lv_if_eq (tgt := 123) hx hb dX5_panel_102 (by decide) (fun hc => absurd hc (by decide)) (fun _ => ?_)
      refine lv_aload_n hx hb dX5_panel_105 rfl (lv_at hl 2 rfl) ?_
      refine va_get (D := D) (ci := 5) (v := .ref a1) (C := RX5) (T := TX5) (N := 13) hx hb hts hi_X5 hown hK hP 0 rfl rfl 0 (by decide) hf_7 (fun _ h9 => h9) rfl dX5_panel_106 ?_
      refine lv_iload_n hx hb dX5_panel_109 rfl (lv_at hl 3 rfl) ?_
      obtain ⟨r38, hcr38, hsp⟩ := clE hsp
      refine call_i (w1 := []) (ws' := [(a0, .inr (5, [.ref a1, w0_1, w0_2, w0_3, w0_4, w0_5, .ref a7, w0_7, w0_8, w0_9, w0_10, w0_11, w0_12])), (a1, .inl (cI, 99, .inl f1)), (a7, .inl (cI, 3, .inl r3.2))]) (va_runS (As := [.int u1]) (rest := [.ref a1]) ⟨hx, hb, hml, hown, hts⟩ (k_X5_n l D cI cZ cC cS H.size u1 r38 hcr38) (va_cwS 1 hts gX5_panel_X5_n rfl rfl rfl nd_X5_n.2 ⟨Nat.le_of_ble_eq_true rfl, Nat.le_of_ble_eq_true rfl⟩) (PB.preS hKU hP hD [] rfl rfl) rfl rfl hl.1 rfl (lv_room (Nat.le_of_ble_eq_true rfl)) dX5_panel_110 ⟨Nat.zero_le _, Nat.zero_le _⟩) hS hP hD hA [] rfl rfl (by first | (simp only [wset, List.set_cons_zero, List.set_cons_succ]; done) | rfl) rfl (fun H locs hP hD hS => ?_)
      refine lv_iconst (v := 4) hx hb dX5_panel_113 (by decide) ?_
      refine lv_iadd hx hb dX5_panel_114 ?_
      refine lv_iload_n hx hb dX5_panel_115 rfl (lv_at hl 4 rfl) ?_
      refine lv_iadd hx hb dX5_panel_116 ?_
      refine lv_iconst (v := 3) hx hb dX5_panel_117 (by decide) ?_
      refine lv_isub hx hb dX5_panel_118 ?_
      obtain ⟨x39, ex39, hnx39, hsp⟩ := ldE hsp
      refine r_iald hx hb hK hP 1 0 rfl rfl ex39 hnx39 dX5_panel_119 ?_
      refine lv_goto (tgt := 125) hx hb dX5_panel_120 (by decide) ?_
      have hres := Option.some.inj hsp
      subst hres
      exact W.iret (v := x39) hx hb hr (fun t ht hW => ⟨⟨x39, (), rfl, rfl, P_at ht hP⟩, hS.F ht⟩) hS.2.2 dX5_panel_125
    have hsp := itF hsp c37
    by_cases c40 : u2 = 5
    · have hsp := itT hsp c40
      refine lv_tableIn (off := 62) (tgt := 100) hx hb dX5_panel_38 (by rw [c40]; decide) (by rw [c40]; decide) (by rw [c40]; decide) (by decide) ?_
      refine lv_iload hx hb dX5_panel_100 (lv_at hl 0 rfl) ?_
      refine lv_if_eq (tgt := 123) hx hb dX5_panel_102 (by decide) (fun hc => absurd hc (by decide)) (fun _ => ?_)
      refine lv_aload_n hx hb dX5_panel_105 rfl (lv_at hl 2 rfl) ?_
      refine va_get (D := D) (ci := 5) (v := .ref a1) (C := RX5) (T := TX5) (N := 13) hx hb hts hi_X5 hown hK hP 0 rfl rfl 0 (by decide) hf_7 (fun _ h9 => h9) rfl dX5_panel_106 ?_
      refine lv_iload_n hx hb dX5_panel_109 rfl (lv_at hl 3 rfl) ?_
      obtain ⟨r41, hcr41, hsp⟩ := clE hsp
      refine call_i (w1 := []) (ws' := [(a0, .inr (5, [.ref a1, w0_1, w0_2, w0_3, w0_4, w0_5, .ref a7, w0_7, w0_8, w0_9, w0_10, w0_11, w0_12])), (a1, .inl (cI, 99, .inl f1)), (a7, .inl (cI, 3, .inl r3.2))]) (va_runS (As := [.int u1]) (rest := [.ref a1]) ⟨hx, hb, hml, hown, hts⟩ (k_X5_n l D cI cZ cC cS H.size u1 r41 hcr41) (va_cwS 1 hts gX5_panel_X5_n rfl rfl rfl nd_X5_n.2 ⟨Nat.le_of_ble_eq_true rfl, Nat.le_of_ble_eq_true rfl⟩) (PB.preS hKU hP hD [] rfl rfl) rfl rfl hl.1 rfl (lv_room (Nat.le_of_ble_eq_true rfl)) dX5_panel_110 ⟨Nat.zero_le _, Nat.zero_le _⟩) hS hP hD hA [] rfl rfl (by first | (simp only [wset, List.set_cons_zero, List.set_cons_succ]; done) | rfl) rfl (fun H locs hP hD hS => ?_)
      refine lv_iconst (v := 4) hx hb dX5_panel_113 (by decide) ?_
      refine lv_iadd hx hb dX5_panel_114 ?_
      refine lv_iload_n hx hb dX5_panel_115 rfl (lv_at hl 4 rfl) ?_
      refine lv_iadd hx hb dX5_panel_116 ?_
      refine lv_iconst (v := 3) hx hb dX5_panel_117 (by decide) ?_
      refine lv_isub hx hb dX5_panel_118 ?_
      obtain ⟨x42, ex42, hnx42, hsp⟩ := ldE hsp
      refine r_iald hx hb hK hP 1 0 rfl rfl ex42 hnx42 dX5_panel_119 ?_
      refine lv_goto (tgt := 125) hx hb dX5_panel_120 (by decide) ?_
      have hres := Option.some.inj hsp
      subst hres
      exact W.iret (v := x42) hx hb hr (fun t ht hW => ⟨⟨x42, (), rfl, rfl, P_at ht hP⟩, hS.F ht⟩) hS.2.2 dX5_panel_125
    have hsp := itF hsp c40
    by_cases c43 : u2 = 6
    · have hsp := itT hsp c43
      refine lv_tableIn (off := 88) (tgt := 126) hx hb dX5_panel_38 (by rw [c43]; decide) (by rw [c43]; decide) (by rw [c43]; decide) (by decide) ?_
      refine lv_iload hx hb dX5_panel_126 (lv_at hl 0 rfl) ?_
      refine lv_if_eq (tgt := 139) hx hb dX5_panel_128 (by decide) (fun hc => absurd hc (by decide)) (fun _ => ?_)
      refine lv_aload_n hx hb dX5_panel_131 rfl (lv_at hl 2 rfl) ?_
      refine lv_iload_n hx hb dX5_panel_132 rfl (lv_at hl 3 rfl) ?_
      obtain ⟨r44, hcr44, hsp⟩ := clE hsp
      refine call_i (w1 := [(a0, .inr (5, [.ref a1, w0_1, w0_2, w0_3, w0_4, w0_5, .ref a7, w0_7, w0_8, w0_9, w0_10, w0_11, w0_12])), (a1, .inl (cI, 99, .inl f1)), (a7, .inl (cI, 3, .inl r3.2))]) (ws' := [(a0, .inr (5, [.ref a1, w0_1, w0_2, w0_3, w0_4, w0_5, .ref a7, w0_7, w0_8, w0_9, w0_10, w0_11, w0_12])), (a1, .inl (cI, 99, .inl f1)), (a7, .inl (cI, 3, .inl r3.2))]) (va_runV (As := [.int u1]) (rest := []) ⟨hx, hb, hml, hown, hts⟩ (k_X5_distance l D cI cZ cC cS H.size a0 a1 a7 (w0_1) (w0_2) (w0_3) (w0_4) (w0_5) (w0_7) (w0_8) (w0_9) (w0_10) (w0_11) (w0_12) f1 r3.2 u1 r44 hcr44) (cwV 1 hts gX5_panel_X5_distance rfl rfl rfl nd_X5_distance ⟨Nat.le_of_ble_eq_true rfl, Nat.le_of_ble_eq_true rfl⟩) (PB.preV (ci := 5) (q0 := 0) hKU hP hD [0, 1, 2] rfl rfl rfl rfl) rfl rfl hl.1 rfl (lv_room (Nat.le_of_ble_eq_true rfl)) dX5_panel_133 ⟨Nat.zero_le _, Nat.zero_le _⟩) hS hP hD hA [0, 1, 2] rfl rfl (by first | (simp only [wset, List.set_cons_zero, List.set_cons_succ]; done) | rfl) rfl (fun H locs hP hD hS => ?_)
      refine lv_goto (tgt := 141) hx hb dX5_panel_136 (by decide) ?_
      have hres := Option.some.inj hsp
      subst hres
      exact W.iret (v := r44) hx hb hr (fun t ht hW => ⟨⟨r44, (), rfl, rfl, P_at ht hP⟩, hS.F ht⟩) hS.2.2 dX5_panel_141
    have hsp := itF hsp c43
    by_cases c45 : u2 = 7
    · have hsp := itT hsp c45
      refine lv_tableIn (off := 104) (tgt := 142) hx hb dX5_panel_38 (by rw [c45]; decide) (by rw [c45]; decide) (by rw [c45]; decide) (by decide) ?_
      refine lv_iload_n hx hb dX5_panel_142 rfl (lv_at hl 1 rfl) ?_
      refine lv_if_eq (tgt := 150) hx hb dX5_panel_143 (by decide) (fun c46 => ?_) (fun c46 => ?_)
      · have hsp := itT hsp c46
        refine lv_iconst (v := 0) hx hb dX5_panel_150 (by decide) ?_
        have hres := Option.some.inj hsp
        subst hres
        exact W.iret (v := 0) hx hb hr (fun t ht hW => ⟨⟨0, (), rfl, rfl, P_at ht hP⟩, hS.F ht⟩) hS.2.2 dX5_panel_151
      have hsp := itF hsp c46
      refine lv_iconst (v := 1) hx hb dX5_panel_146 (by decide) ?_
      refine lv_goto (tgt := 151) hx hb dX5_panel_147 (by decide) ?_
      have hres := Option.some.inj hsp
      subst hres
      exact W.iret (v := 1) hx hb hr (fun t ht hW => ⟨⟨1, (), rfl, rfl, P_at ht hP⟩, hS.F ht⟩) hS.2.2 dX5_panel_151
    have hsp := itF hsp c45
    by_cases c47 : u2 = 8
    · have hsp := itT hsp c47
      refine lv_tableIn (off := 114) (tgt := 152) hx hb dX5_panel_38 (by rw [c47]; decide) (by rw [c47]; decide) (by rw [c47]; decide) (by decide) ?_
      refine lv_aload_n hx hb dX5_panel_152 rfl (lv_at hl 2 rfl) ?_
      refine va_get (D := D) (ci := 5) (v := .ref a1) (C := RX5) (T := TX5) (N := 13) hx hb hts hi_X5 hown hK hP 0 rfl rfl 0 (by decide) hf_7 (fun _ h9 => h9) rfl dX5_panel_153 ?_
      refine lv_iload_n hx hb dX5_panel_156 rfl (lv_at hl 3 rfl) ?_
      obtain ⟨r48, hcr48, hsp⟩ := clE hsp
      refine call_i (w1 := []) (ws' := [(a0, .inr (5, [.ref a1, w0_1, w0_2, w0_3, w0_4, w0_5, .ref a7, w0_7, w0_8, w0_9, w0_10, w0_11, w0_12])), (a1, .inl (cI, 99, .inl f1)), (a7, .inl (cI, 3, .inl r3.2))]) (va_runS (As := [.int u1]) (rest := [.ref a1]) ⟨hx, hb, hml, hown, hts⟩ (k_X5_n l D cI cZ cC cS H.size u1 r48 hcr48) (va_cwS 1 hts gX5_panel_X5_n rfl rfl rfl nd_X5_n.2 ⟨Nat.le_of_ble_eq_true rfl, Nat.le_of_ble_eq_true rfl⟩) (PB.preS hKU hP hD [] rfl rfl) rfl rfl hl.1 rfl (lv_room (Nat.le_of_ble_eq_true rfl)) dX5_panel_157 ⟨Nat.zero_le _, Nat.zero_le _⟩) hS hP hD hA [] rfl rfl (by first | (simp only [wset, List.set_cons_zero, List.set_cons_succ]; done) | rfl) rfl (fun H locs hP hD hS => ?_)
      refine lv_bipush (v := 7) hx hb dX5_panel_160 (by decide) ?_
      refine lv_iadd hx hb dX5_panel_162 ?_
      obtain ⟨x49, ex49, hnx49, hsp⟩ := ldE hsp
      refine r_iald hx hb hK hP 1 0 rfl rfl ex49 hnx49 dX5_panel_163 ?_
      have hres := Option.some.inj hsp
      subst hres
      exact W.iret (v := x49) hx hb hr (fun t ht hW => ⟨⟨x49, (), rfl, rfl, P_at ht hP⟩, hS.F ht⟩) hS.2.2 dX5_panel_164
    have hsp := itF hsp c47
    have tc25 := lv_neT (a := 0) c25 (by decide)
    have tc28 := lv_neT (a := 1) c28 (by decide)
    have tc31 := lv_neT (a := 2) c31 (by decide)
    have tc34 := lv_neT (a := 3) c34 (by decide)
    have tc37 := lv_neT (a := 4) c37 (by decide)
    have tc40 := lv_neT (a := 5) c40 (by decide)
    have tc43 := lv_neT (a := 6) c43 (by decide)
    have tc45 := lv_neT (a := 7) c45 (by decide)
    have tc47 := lv_neT (a := 8) c47 (by decide)
    refine lv_tableOut (tgt := 165) hx hb dX5_panel_38 (by omega) (by decide) ?_
    refine lv_bipush (v := (-2)) hx hb dX5_panel_165 (by decide) ?_
    have hres := Option.some.inj hsp
    subst hres
    exact W.iret (v := (-2)) hx hb hr (fun t ht hW => ⟨⟨(-2), (), rfl, rfl, P_at ht hP⟩, hS.F ht⟩) hS.2.2 dX5_panel_167
  have hsp := itT hsp c2
  refine lv_iconst (v := (-1)) hx hb dX5_panel_7 (by decide) ?_
  have hres := Option.some.inj hsp
  subst hres
  exact W.iret (v := (-1)) hx hb hr (fun t ht hW => ⟨⟨(-1), (), rfl, rfl, P_at ht hP⟩, hS.F ht⟩) hS.2.2 dX5_panel_8

theorem nd_X5_pot : yX5_pot.cls = RX5 ∧ yX5_pot.cls ≠ "java/lang/invoke/MethodHandle" ∧ yX5_pot.cls ≠ "java/lang/invoke/VarHandle" ∧ (parseMethodDescriptor yX5_pot.desc).map (fun d => d.parameters.length) = some 2 := by decide +kernel
set_option maxHeartbeats 8000000 in
set_option maxRecDepth 100000 in
theorem k_X5_pot (l : Launch) (D : va_G) (cI cZ cC cS : ClassId) (sz : Nat) (a0 a1 : Nat) (w0_1 : Value) (w0_2 : Value) (w0_3 : Value) (w0_4 : Value) (w0_5 : Value) (w0_6 : Value) (w0_7 : Value) (w0_8 : Value) (w0_9 : Value) (w0_10 : Value) (w0_11 : Value) (w0_12 : Value) (f1 : Nat → Int32) (u1 : Int32) (u2 : Int32) (res : Int32) (hsp : s_X5_pot f1 u1 u2 = some res) : Met l yX5_pot wsX5_pot ({ frames := 3, cells := 0, slots := 0, locals := 65 }) (va_Pc [.ref a0, .int u1, .int u2] (PB D cI cZ cC cS [(a0, .inr (5, [.ref a1, w0_1, w0_2, w0_3, w0_4, w0_5, w0_6, w0_7, w0_8, w0_9, w0_10, w0_11, w0_12])), (a1, .inl (cI, 99, .inl f1))] sz)) (va_Qi (fun r (_ : Unit) => r = res) (fun _ t => va_P D vwCl [(a0, .inr (5, [.ref a1, w0_1, w0_2, w0_3, w0_4, w0_5, w0_6, w0_7, w0_8, w0_9, w0_10, w0_11, w0_12])), (a1, .inl (cI, 99, .inl f1))] t.heap) (va_A [(a0, .inr (5, [.ref a1, w0_1, w0_2, w0_3, w0_4, w0_5, w0_6, w0_7, w0_8, w0_9, w0_10, w0_11, w0_12])), (a1, .inl (cI, 99, .inl f1))] sz)) 0 0 (va_A [(a0, .inr (5, [.ref a1, w0_1, w0_2, w0_3, w0_4, w0_5, w0_6, w0_7, w0_8, w0_9, w0_10, w0_11, w0_12])), (a1, .inl (cI, 99, .inl f1))] sz) := by
  refine Met.ofW (cc := cX5_pot) (maxL := 3) (ret := (some .int)) (by decide) rfl ?_
  intro p e s m args below meth c s₁ B hml hv
  obtain ⟨rfl, hsz, hP, hD0, hKU⟩ := hv
  have hx := B.exec
  have hb := B.bytes
  have hr := B.returns
  have hts := atoms_spec (ws := wsX5_pot) B.pre
  have hown : s.vm.findClass RX5 = some m.cls := findClass_of_methodNamed B.named
  have hlocks := B.notSynchronized
  have hK := hKU.1
  have hf_7 := hts (.fieldLink RX5 7 "ThinnedPotsModel" "s" "[I") (by decide +kernel)
  have hi_X5 : ∀ w ∈ u_ws RX5 TX5 13, w ∈ wsX5_pot := by decide +kernel
  subst hsz
  have hD := hD0.self (sz := s.heap.size)
  generalize hAe : va_A [(a0, .inr (5, [.ref a1, w0_1, w0_2, w0_3, w0_4, w0_5, w0_6, w0_7, w0_8, w0_9, w0_10, w0_11, w0_12])), (a1, .inl (cI, 99, .inl f1))] s.heap.size = A at hD ⊢
  have hA : ∀ q : Nat, s.heap.size ≤ q → A q := fun q h => by rw [← hAe]; exact Or.inr h
  have hP : va_P D vwCl [(a0, .inr (5, [.ref a1, w0_1, w0_2, w0_3, w0_4, w0_5, w0_6, w0_7, w0_8, w0_9, w0_10, w0_11, w0_12])), (a1, .inl (cI, 99, .inl f1))] s.heap := hP
  generalize hHe : s.heap = H at hP ⊢
  have hS : va_S A s.heap H [] := by rw [hHe]; exact va_S.rf
  have hl := lv_entry ([.ref a0, .int u1, .int u2]) (n := 3) (Nat.le_of_ble_eq_true rfl)
  rw [lg_entry_eq]
  generalize (lg_sl ([.ref a0, .int u1, .int u2]) ++ List.replicate (3 - (lg_sl ([.ref a0, .int u1, .int u2])).length) Slot.unset).toArray = ls at hl ⊢
  have hl : lv_has ls 3 [(0, .ref a0), (1, .int u1), (2, .int u2)] := hl
  unfold s_X5_pot at hsp
  refine lv_iload_n hx hb dX5_pot_0 rfl (lv_at hl 1 rfl) ?_
  obtain ⟨r1, hcr1, hsp⟩ := clE hsp
  refine call_z (w1 := []) (ws' := [(a0, .inr (5, [.ref a1, w0_1, w0_2, w0_3, w0_4, w0_5, w0_6, w0_7, w0_8, w0_9, w0_10, w0_11, w0_12])), (a1, .inl (cI, 99, .inl f1))]) (va_runS (As := [.int u1]) (rest := []) ⟨hx, hb, hml, hown, hts⟩ (k_X5_isPot l D cI cZ cC cS H.size u1 r1 hcr1) (va_cwS 1 hts gX5_pot_X5_isPot rfl rfl rfl nd_X5_isPot.2 ⟨Nat.le_of_ble_eq_true rfl, Nat.le_of_ble_eq_true rfl⟩) (PB.preS hKU hP hD [] rfl rfl) rfl rfl hl.1 rfl (lv_room (Nat.le_of_ble_eq_true rfl)) dX5_pot_1 ⟨Nat.zero_le _, Nat.zero_le _⟩) hS hP hD hA [] rfl rfl (by first | (simp only [wset, List.set_cons_zero, List.set_cons_succ]; done) | rfl) rfl (fun H locs hP hD hS hzr1 => ?_)
  refine lv_if_ne (tgt := 9) hx hb dX5_pot_4 (by decide) (fun c2 => ?_) (fun c2 => ?_)
  · have hsp := itF hsp c2
    refine lv_iload_n hx hb dX5_pot_9 rfl (lv_at hl 2 rfl) ?_
    refine lv_iconst (v := 0) hx hb dX5_pot_10 (by decide) ?_
    refine lv_bipush (v := 8) hx hb dX5_pot_11 (by decide) ?_
    obtain ⟨r3, hcr3, hsp⟩ := clE hsp
    refine call_z (w1 := []) (ws' := [(a0, .inr (5, [.ref a1, w0_1, w0_2, w0_3, w0_4, w0_5, w0_6, w0_7, w0_8, w0_9, w0_10, w0_11, w0_12])), (a1, .inl (cI, 99, .inl f1))]) (va_runS (As := [.int u2, .int 0, .int 8]) (rest := []) ⟨hx, hb, hml, hown, hts⟩ (k_X5_in l D cI cZ cC cS H.size u2 0 8 r3 hcr3) (va_cwS 3 hts gX5_pot_X5_in rfl rfl rfl nd_X5_in.2 ⟨Nat.le_of_ble_eq_true rfl, Nat.le_of_ble_eq_true rfl⟩) (PB.preS hKU hP hD [] rfl rfl) rfl rfl hl.1 rfl (lv_room (Nat.le_of_ble_eq_true rfl)) dX5_pot_13 ⟨Nat.zero_le _, Nat.zero_le _⟩) hS hP hD hA [] rfl rfl (by first | (simp only [wset, List.set_cons_zero, List.set_cons_succ]; done) | rfl) rfl (fun H locs hP hD hS hzr3 => ?_)
    refine lv_if_ne (tgt := 24) hx hb dX5_pot_16 (by decide) (fun c4 => ?_) (fun c4 => ?_)
    · have hsp := itF hsp c4
      refine lv_iload_n hx hb dX5_pot_24 rfl (lv_at hl 2 rfl) ?_
      refine lv_bipush (v := 8) hx hb dX5_pot_25 (by decide) ?_
      refine lv_icmp_ne (tgt := 44) hx hb dX5_pot_27 (by decide) (fun c5 => ?_) (fun c5 => ?_)
      · have hsp := itF hsp c5
        refine lv_aload_n hx hb dX5_pot_44 rfl (lv_at hl 0 rfl) ?_
        refine lv_iload_n hx hb dX5_pot_45 rfl (lv_at hl 1 rfl) ?_
        obtain ⟨r6, hcr6, hsp⟩ := clE hsp
        refine call_i (w1 := []) (ws' := [(a0, .inr (5, [.ref a1, w0_1, w0_2, w0_3, w0_4, w0_5, w0_6, w0_7, w0_8, w0_9, w0_10, w0_11, w0_12])), (a1, .inl (cI, 99, .inl f1))]) (va_runS (As := [.int u1]) (rest := [.ref a0]) ⟨hx, hb, hml, hown, hts⟩ (k_X5_p l D cI cZ cC cS H.size u1 r6 hcr6) (va_cwS 1 hts gX5_pot_X5_p rfl rfl rfl nd_X5_p.2 ⟨Nat.le_of_ble_eq_true rfl, Nat.le_of_ble_eq_true rfl⟩) (PB.preS hKU hP hD [] rfl rfl) rfl rfl hl.1 rfl (lv_room (Nat.le_of_ble_eq_true rfl)) dX5_pot_46 ⟨Nat.zero_le _, Nat.zero_le _⟩) hS hP hD hA [] rfl rfl (by first | (simp only [wset, List.set_cons_zero, List.set_cons_succ]; done) | rfl) rfl (fun H locs hP hD hS => ?_)
        refine lv_iload_n hx hb dX5_pot_49 rfl (lv_at hl 2 rfl) ?_
        obtain ⟨r7, hcr7, hsp⟩ := clE hsp
        refine call_i (w1 := [(a0, .inr (5, [.ref a1, w0_1, w0_2, w0_3, w0_4, w0_5, w0_6, w0_7, w0_8, w0_9, w0_10, w0_11, w0_12])), (a1, .inl (cI, 99, .inl f1))]) (ws' := [(a0, .inr (5, [.ref a1, w0_1, w0_2, w0_3, w0_4, w0_5, w0_6, w0_7, w0_8, w0_9, w0_10, w0_11, w0_12])), (a1, .inl (cI, 99, .inl f1))]) (va_runV (As := [.int r6, .int u2]) (rest := []) ⟨hx, hb, hml, hown, hts⟩ (k_X5_ofPaint l D cI cZ cC cS H.size a0 a1 (w0_1) (w0_2) (w0_3) (w0_4) (w0_5) (w0_6) (w0_7) (w0_8) (w0_9) (w0_10) (w0_11) (w0_12) f1 r6 u2 r7 hcr7) (cwV 2 hts gX5_pot_X5_ofPaint rfl rfl rfl nd_X5_ofPaint ⟨Nat.le_of_ble_eq_true rfl, Nat.le_of_ble_eq_true rfl⟩) (PB.preV (ci := 5) (q0 := 0) hKU hP hD [0, 1] rfl rfl rfl rfl) rfl rfl hl.1 rfl (lv_room (Nat.le_of_ble_eq_true rfl)) dX5_pot_50 ⟨Nat.zero_le _, Nat.zero_le _⟩) hS hP hD hA [0, 1] rfl rfl (by first | (simp only [wset, List.set_cons_zero, List.set_cons_succ]; done) | rfl) rfl (fun H locs hP hD hS => ?_)
        have hres := Option.some.inj hsp
        subst hres
        exact W.iret (v := r7) hx hb hr (fun t ht hW => ⟨⟨r7, (), rfl, rfl, P_at ht hP⟩, hS.F ht⟩) hS.2.2 dX5_pot_53
      have hsp := itT hsp c5
      refine lv_aload_n hx hb dX5_pot_30 rfl (lv_at hl 0 rfl) ?_
      refine va_get (D := D) (ci := 5) (v := .ref a1) (C := RX5) (T := TX5) (N := 13) hx hb hts hi_X5 hown hK hP 0 rfl rfl 0 (by decide) hf_7 (fun _ h9 => h9) rfl dX5_pot_31 ?_
      refine lv_iload_n hx hb dX5_pot_34 rfl (lv_at hl 1 rfl) ?_
      obtain ⟨r8, hcr8, hsp⟩ := clE hsp
      refine call_i (w1 := []) (ws' := [(a0, .inr (5, [.ref a1, w0_1, w0_2, w0_3, w0_4, w0_5, w0_6, w0_7, w0_8, w0_9, w0_10, w0_11, w0_12])), (a1, .inl (cI, 99, .inl f1))]) (va_runS (As := [.int u1]) (rest := [.ref a1]) ⟨hx, hb, hml, hown, hts⟩ (k_X5_p l D cI cZ cC cS H.size u1 r8 hcr8) (va_cwS 1 hts gX5_pot_X5_p rfl rfl rfl nd_X5_p.2 ⟨Nat.le_of_ble_eq_true rfl, Nat.le_of_ble_eq_true rfl⟩) (PB.preS hKU hP hD [] rfl rfl) rfl rfl hl.1 rfl (lv_room (Nat.le_of_ble_eq_true rfl)) dX5_pot_35 ⟨Nat.zero_le _, Nat.zero_le _⟩) hS hP hD hA [] rfl rfl (by first | (simp only [wset, List.set_cons_zero, List.set_cons_succ]; done) | rfl) rfl (fun H locs hP hD hS => ?_)
      refine lv_iconst (v := 4) hx hb dX5_pot_38 (by decide) ?_
      refine lv_iadd hx hb dX5_pot_39 ?_
      obtain ⟨x9, ex9, hnx9, hsp⟩ := ldE hsp
      refine r_iald hx hb hK hP 1 0 rfl rfl ex9 hnx9 dX5_pot_40 ?_
      refine lv_goto (tgt := 53) hx hb dX5_pot_41 (by decide) ?_
      have hres := Option.some.inj hsp
      subst hres
      exact W.iret (v := x9) hx hb hr (fun t ht hW => ⟨⟨x9, (), rfl, rfl, P_at ht hP⟩, hS.F ht⟩) hS.2.2 dX5_pot_53
    have hsp := itT hsp c4
    refine lv_bipush (v := (-2)) hx hb dX5_pot_19 (by decide) ?_
    refine lv_goto (tgt := 53) hx hb dX5_pot_21 (by decide) ?_
    have hres := Option.some.inj hsp
    subst hres
    exact W.iret (v := (-2)) hx hb hr (fun t ht hW => ⟨⟨(-2), (), rfl, rfl, P_at ht hP⟩, hS.F ht⟩) hS.2.2 dX5_pot_53
  have hsp := itT hsp c2
  refine lv_iconst (v := (-1)) hx hb dX5_pot_7 (by decide) ?_
  have hres := Option.some.inj hsp
  subst hres
  exact W.iret (v := (-1)) hx hb hr (fun t ht hW => ⟨⟨(-1), (), rfl, rfl, P_at ht hP⟩, hS.F ht⟩) hS.2.2 dX5_pot_8

theorem nd_X5_pour : yX5_pour.cls = RX5 ∧ yX5_pour.cls ≠ "java/lang/invoke/MethodHandle" ∧ yX5_pour.cls ≠ "java/lang/invoke/VarHandle" ∧ (parseMethodDescriptor yX5_pour.desc).map (fun d => d.parameters.length) = some 3 := by decide +kernel
set_option maxHeartbeats 8000000 in
set_option maxRecDepth 100000 in
theorem k_X5_pour (l : Launch) (D : va_G) (cI cZ cC cS : ClassId) (sz : Nat) (a0 a1 a2 a3 a6 : Nat) (w0_3 : Value) (w0_4 : Value) (w0_6 : Value) (w0_7 : Value) (w0_8 : Value) (w0_9 : Value) (g0_10 : Int32) (w0_11 : Value) (w0_12 : Value) (f1 : Nat → Int32) (f2 : Nat → Int32) (f3 : Nat → Int32) (f6 : Nat → Int32) (u1 : Int32) (u2 : Int32) (u3 : Int32) (res : Int32 × Int32 × (Nat → Int32) × (Nat → Int32) × (Nat → Int32) × (Nat → Int32)) (hsp : s_X5_pour g0_10 f1 f2 f3 f6 u1 u2 u3 = some res) : Met l yX5_pour wsX5_pour ({ frames := 4, cells := 0, slots := 0, locals := 99 }) (va_Pc [.ref a0, .int u1, .int u2, .int u3] (PB D cI cZ cC cS [(a0, .inr (5, [.ref a1, .ref a2, .ref a3, w0_3, w0_4, .ref a6, w0_6, w0_7, w0_8, w0_9, .int g0_10, w0_11, w0_12])), (a1, .inl (cI, 99, .inl f1)), (a2, .inl (cI, 99, .inl f2)), (a3, .inl (cI, 594, .inl f3)), (a6, .inl (cI, 4, .inl f6))] sz)) (va_Qi (fun r (_ : Unit) => r = res.1) (fun _ t => va_P D vwCl [(a0, .inr (5, [.ref a1, .ref a2, .ref a3, w0_3, w0_4, .ref a6, w0_6, w0_7, w0_8, w0_9, .int res.2.1, w0_11, w0_12])), (a1, .inl (cI, 99, .inl res.2.2.1)), (a2, .inl (cI, 99, .inl res.2.2.2.1)), (a3, .inl (cI, 594, .inl res.2.2.2.2.1)), (a6, .inl (cI, 4, .inl res.2.2.2.2.2))] t.heap) (va_A [(a0, .inr (5, [.ref a1, .ref a2, .ref a3, w0_3, w0_4, .ref a6, w0_6, w0_7, w0_8, w0_9, .int g0_10, w0_11, w0_12])), (a1, .inl (cI, 99, .inl f1)), (a2, .inl (cI, 99, .inl f2)), (a3, .inl (cI, 594, .inl f3)), (a6, .inl (cI, 4, .inl f6))] sz)) 0 0 (va_A [(a0, .inr (5, [.ref a1, .ref a2, .ref a3, w0_3, w0_4, .ref a6, w0_6, w0_7, w0_8, w0_9, .int g0_10, w0_11, w0_12])), (a1, .inl (cI, 99, .inl f1)), (a2, .inl (cI, 99, .inl f2)), (a3, .inl (cI, 594, .inl f3)), (a6, .inl (cI, 4, .inl f6))] sz) := by
  refine Met.ofW (cc := cX5_pour) (maxL := 4) (ret := (some .int)) (by decide) rfl ?_
  intro p e s m args below meth c s₁ B hml hv
  obtain ⟨rfl, hsz, hP, hD0, hKU⟩ := hv
  have hx := B.exec
  have hb := B.bytes
  have hr := B.returns
  have hts := atoms_spec (ws := wsX5_pour) B.pre
  have hown : s.vm.findClass RX5 = some m.cls := findClass_of_methodNamed B.named
  have hlocks := B.notSynchronized
  have hK := hKU.1
  subst hsz
  have hD := hD0.self (sz := s.heap.size)
  generalize hAe : va_A [(a0, .inr (5, [.ref a1, .ref a2, .ref a3, w0_3, w0_4, .ref a6, w0_6, w0_7, w0_8, w0_9, .int g0_10, w0_11, w0_12])), (a1, .inl (cI, 99, .inl f1)), (a2, .inl (cI, 99, .inl f2)), (a3, .inl (cI, 594, .inl f3)), (a6, .inl (cI, 4, .inl f6))] s.heap.size = A at hD ⊢
  have hA : ∀ q : Nat, s.heap.size ≤ q → A q := fun q h => by rw [← hAe]; exact Or.inr h
  have hP : va_P D vwCl [(a0, .inr (5, [.ref a1, .ref a2, .ref a3, w0_3, w0_4, .ref a6, w0_6, w0_7, w0_8, w0_9, .int g0_10, w0_11, w0_12])), (a1, .inl (cI, 99, .inl f1)), (a2, .inl (cI, 99, .inl f2)), (a3, .inl (cI, 594, .inl f3)), (a6, .inl (cI, 4, .inl f6))] s.heap := hP
  generalize hHe : s.heap = H at hP ⊢
  have hS : va_S A s.heap H [] := by rw [hHe]; exact va_S.rf
  have hl := lv_entry ([.ref a0, .int u1, .int u2, .int u3]) (n := 4) (Nat.le_of_ble_eq_true rfl)
  rw [lg_entry_eq]
  generalize (lg_sl ([.ref a0, .int u1, .int u2, .int u3]) ++ List.replicate (4 - (lg_sl ([.ref a0, .int u1, .int u2, .int u3])).length) Slot.unset).toArray = ls at hl ⊢
  have hl : lv_has ls 4 [(0, .ref a0), (1, .int u1), (2, .int u2), (3, .int u3)] := hl
  unfold s_X5_pour at hsp
  refine lv_aload_n hx hb dX5_pour_0 rfl (lv_at hl 0 rfl) ?_
  obtain ⟨r1, hcr1, hsp⟩ := clE hsp
  refine call_v (w1 := [(a0, .inr (5, [.ref a1, .ref a2, .ref a3, w0_3, w0_4, .ref a6, w0_6, w0_7, w0_8, w0_9, .int g0_10, w0_11, w0_12])), (a1, .inl (cI, 99, .inl f1)), (a2, .inl (cI, 99, .inl r1))]) (ws' := [(a0, .inr (5, [.ref a1, .ref a2, .ref a3, w0_3, w0_4, .ref a6, w0_6, w0_7, w0_8, w0_9, .int g0_10, w0_11, w0_12])), (a1, .inl (cI, 99, .inl f1)), (a2, .inl (cI, 99, .inl r1)), (a3, .inl (cI, 594, .inl f3)), (a6, .inl (cI, 4, .inl f6))]) (va_runV (As := []) (rest := []) ⟨hx, hb, hml, hown, hts⟩ (k_X5_hold l D cI cZ cC cS H.size a0 a1 a2 (.ref a3) (w0_3) (w0_4) (.ref a6) (w0_6) (w0_7) (w0_8) (w0_9) (.int g0_10) (w0_11) (w0_12) f1 f2 r1 hcr1) (cwV 0 hts gX5_pour_X5_hold rfl rfl rfl nd_X5_hold ⟨Nat.le_of_ble_eq_true rfl, Nat.le_of_ble_eq_true rfl⟩) (PB.preV (ci := 5) (q0 := 0) hKU hP hD [0, 1, 2] rfl rfl rfl rfl) rfl rfl hl.1 rfl (lv_room (Nat.le_of_ble_eq_true rfl)) dX5_pour_1 ⟨Nat.zero_le _, Nat.zero_le _⟩) hS hP hD hA [0, 1, 2] rfl rfl (by first | (simp only [wset, List.set_cons_zero, List.set_cons_succ]; done) | rfl) rfl (fun H locs hP hD hS => ?_)
  refine lv_aload_n hx hb dX5_pour_4 rfl (lv_at hl 0 rfl) ?_
  refine lv_aload_n hx hb dX5_pour_5 rfl (lv_at hl 0 rfl) ?_
  refine lv_iload_n hx hb dX5_pour_6 rfl (lv_at hl 1 rfl) ?_
  refine lv_iload_n hx hb dX5_pour_7 rfl (lv_at hl 2 rfl) ?_
  refine lv_iload_n hx hb dX5_pour_8 rfl (lv_at hl 3 rfl) ?_
  obtain ⟨r2, hcr2, hsp⟩ := clE hsp
  refine call_i (w1 := [(a0, .inr (5, [.ref a1, .ref a2, .ref a3, w0_3, w0_4, .ref a6, w0_6, w0_7, w0_8, w0_9, .int g0_10, w0_11, w0_12])), (a1, .inl (cI, 99, .inl r2.2.1)), (a6, .inl (cI, 4, .inl r2.2.2))]) (ws' := [(a0, .inr (5, [.ref a1, .ref a2, .ref a3, w0_3, w0_4, .ref a6, w0_6, w0_7, w0_8, w0_9, .int g0_10, w0_11, w0_12])), (a1, .inl (cI, 99, .inl r2.2.1)), (a2, .inl (cI, 99, .inl r1)), (a3, .inl (cI, 594, .inl f3)), (a6, .inl (cI, 4, .inl r2.2.2))]) (va_runV (As := [.int u1, .int u2, .int u3]) (rest := [.ref a0]) ⟨hx, hb, hml, hown, hts⟩ (k_X5_pours l D cI cZ cC cS H.size a0 a1 a6 (.ref a2) (.ref a3) (w0_3) (w0_4) (w0_6) (w0_7) (w0_8) (w0_9) (.int g0_10) (w0_11) (w0_12) f1 f6 u1 u2 u3 r2 hcr2) (cwV 3 hts gX5_pour_X5_pours rfl rfl rfl nd_X5_pours ⟨Nat.le_of_ble_eq_true rfl, Nat.le_of_ble_eq_true rfl⟩) (PB.preV (ci := 5) (q0 := 0) hKU hP hD [0, 1, 4] rfl rfl rfl rfl) rfl rfl hl.1 rfl (lv_room (Nat.le_of_ble_eq_true rfl)) dX5_pour_9 ⟨Nat.zero_le _, Nat.zero_le _⟩) hS hP hD hA [0, 1, 4] rfl rfl (by first | (simp only [wset, List.set_cons_zero, List.set_cons_succ]; done) | rfl) rfl (fun H locs hP hD hS => ?_)
  obtain ⟨r3, hcr3, hsp⟩ := clE hsp
  refine call_i (w1 := [(a0, .inr (5, [.ref a1, .ref a2, .ref a3, w0_3, w0_4, .ref a6, w0_6, w0_7, w0_8, w0_9, .int r3.2.1, w0_11, w0_12])), (a2, .inl (cI, 99, .inl r1)), (a3, .inl (cI, 594, .inl r3.2.2))]) (ws' := [(a0, .inr (5, [.ref a1, .ref a2, .ref a3, w0_3, w0_4, .ref a6, w0_6, w0_7, w0_8, w0_9, .int r3.2.1, w0_11, w0_12])), (a1, .inl (cI, 99, .inl r2.2.1)), (a2, .inl (cI, 99, .inl r1)), (a3, .inl (cI, 594, .inl r3.2.2)), (a6, .inl (cI, 4, .inl r2.2.2))]) (va_runV (As := [.int r2.1]) (rest := []) ⟨hx, hb, hml, hown, hts⟩ (k_X5_recorded l D cI cZ cC cS H.size a0 a2 a3 (.ref a1) (w0_3) (w0_4) (.ref a6) (w0_6) (w0_7) (w0_8) (w0_9) g0_10 (w0_11) (w0_12) r1 f3 r2.1 r3 hcr3) (cwV 1 hts gX5_pour_X5_recorded rfl rfl rfl nd_X5_recorded ⟨Nat.le_of_ble_eq_true rfl, Nat.le_of_ble_eq_true rfl⟩) (PB.preV (ci := 5) (q0 := 0) hKU hP hD [0, 2, 3] rfl rfl rfl rfl) rfl rfl hl.1 rfl (lv_room (Nat.le_of_ble_eq_true rfl)) dX5_pour_12 ⟨Nat.zero_le _, Nat.zero_le _⟩) hS hP hD hA [0, 2, 3] rfl rfl (by first | (simp only [wset, List.set_cons_zero, List.set_cons_succ]; done) | rfl) rfl (fun H locs hP hD hS => ?_)
  have hres := Option.some.inj hsp
  subst hres
  exact W.iret (v := r3.1) hx hb hr (fun t ht hW => ⟨⟨r3.1, (), rfl, rfl, P_at ht hP⟩, hS.F ht⟩) hS.2.2 dX5_pour_15

theorem nd_X5_put : yX5_put.cls = RX5 ∧ yX5_put.cls ≠ "java/lang/invoke/MethodHandle" ∧ yX5_put.cls ≠ "java/lang/invoke/VarHandle" ∧ (parseMethodDescriptor yX5_put.desc).map (fun d => d.parameters.length) = some 1 := by decide +kernel
set_option maxHeartbeats 8000000 in
set_option maxRecDepth 100000 in
theorem k_X5_put (l : Launch) (D : va_G) (cI cZ cC cS : ClassId) (sz : Nat) (a0 a9 : Nat) (w0_0 : Value) (w0_1 : Value) (w0_2 : Value) (w0_3 : Value) (w0_4 : Value) (w0_5 : Value) (w0_6 : Value) (w0_7 : Value) (g0_9 : Int32) (w0_10 : Value) (w0_11 : Value) (w0_12 : Value) (f9 : Nat → Int32) (u1 : Int64) (res : Int32 × Int32 × (Nat → Int32)) (hsp : s_X5_put g0_9 f9 u1 = some res) : Met l yX5_put wsX5_put ({ frames := 0, cells := 0, slots := 0, locals := 0 }) (va_Pc [.ref a0, .long u1] (PB D cI cZ cC cS [(a0, .inr (5, [w0_0, w0_1, w0_2, w0_3, w0_4, w0_5, w0_6, w0_7, .ref a9, .int g0_9, w0_10, w0_11, w0_12])), (a9, .inl (cC, 60, .inl f9))] sz)) (va_Qi (fun r (_ : Unit) => r = res.1) (fun _ t => va_P D vwCl [(a0, .inr (5, [w0_0, w0_1, w0_2, w0_3, w0_4, w0_5, w0_6, w0_7, .ref a9, .int res.2.1, w0_10, w0_11, w0_12])), (a9, .inl (cC, 60, .inl res.2.2))] t.heap) (va_A [(a0, .inr (5, [w0_0, w0_1, w0_2, w0_3, w0_4, w0_5, w0_6, w0_7, .ref a9, .int g0_9, w0_10, w0_11, w0_12])), (a9, .inl (cC, 60, .inl f9))] sz)) 0 0 (va_A [(a0, .inr (5, [w0_0, w0_1, w0_2, w0_3, w0_4, w0_5, w0_6, w0_7, .ref a9, .int g0_9, w0_10, w0_11, w0_12])), (a9, .inl (cC, 60, .inl f9))] sz) := by
  refine Met.ofW (cc := cX5_put) (maxL := 8) (ret := (some .int)) (by decide) rfl ?_
  intro p e s m args below meth c s₁ B hml hv
  obtain ⟨rfl, hsz, hP, hD0, hKU⟩ := hv
  have hx := B.exec
  have hb := B.bytes
  have hr := B.returns
  have hts := atoms_spec (ws := wsX5_put) B.pre
  have hown : s.vm.findClass RX5 = some m.cls := findClass_of_methodNamed B.named
  have hlocks := B.notSynchronized
  have hK := hKU.1
  have hf_126 := hts (.fieldLink RX5 126 "ThinnedPotsModel" "length" "I") (by decide +kernel)
  have hi_X5 : ∀ w ∈ u_ws RX5 TX5 13, w ∈ wsX5_put := by decide +kernel
  have hf_35 := hts (.fieldLink RX5 35 "ThinnedPotsModel" "pad" "[C") (by decide +kernel)
  have hl2_188 := hts (.constantLong RX5 188 (255)) (by decide +kernel)
  have hl2_190 := hts (.constantLong RX5 190 (33)) (by decide +kernel)
  have hl2_192 := hts (.constantLong RX5 192 (126)) (by decide +kernel)
  subst hsz
  have hD := hD0.self (sz := s.heap.size)
  generalize hAe : va_A [(a0, .inr (5, [w0_0, w0_1, w0_2, w0_3, w0_4, w0_5, w0_6, w0_7, .ref a9, .int g0_9, w0_10, w0_11, w0_12])), (a9, .inl (cC, 60, .inl f9))] s.heap.size = A at hD ⊢
  have hA : ∀ q : Nat, s.heap.size ≤ q → A q := fun q h => by rw [← hAe]; exact Or.inr h
  have hP : va_P D vwCl [(a0, .inr (5, [w0_0, w0_1, w0_2, w0_3, w0_4, w0_5, w0_6, w0_7, .ref a9, .int g0_9, w0_10, w0_11, w0_12])), (a9, .inl (cC, 60, .inl f9))] s.heap := hP
  generalize hHe : s.heap = H at hP ⊢
  have hS : va_S A s.heap H [] := by rw [hHe]; exact va_S.rf
  have hl := lv_entry ([.ref a0, .long u1]) (n := 8) (Nat.le_of_ble_eq_true rfl)
  rw [lg_entry_eq]
  generalize (lg_sl ([.ref a0, .long u1]) ++ List.replicate (8 - (lg_sl ([.ref a0, .long u1])).length) Slot.unset).toArray = ls at hl ⊢
  have hl : lv_has ls 8 [(0, .ref a0), (1, .long u1)] := hl
  unfold s_X5_put at hsp
  refine lv_iconst (v := 0) hx hb dX5_put_0 (by decide) ?_
  refine lv_istore_n (lv' := [(3, .int 0), (0, .ref a0), (1, .long u1)]) hx hb dX5_put_1 rfl hl (by decide) rfl (fun ls hl => ?_)
  refine lv_lload_n hx hb dX5_put_2 rfl (lv_at hl 2 rfl) ?_
  refine lv_lstore (lv' := [(4, .long u1), (3, .int 0), (0, .ref a0), (1, .long u1)]) hx hb dX5_put_3 hl (by decide) rfl (fun ls hl => ?_)
  refine ex_rule (D := D) (K := s_X5_put_X1 g0_9 f9 u1) (P := fun (t1 : Int32) => [(a0, .inr (5, [w0_0, w0_1, w0_2, w0_3, w0_4, w0_5, w0_6, w0_7, .ref a9, .int g0_9, w0_10, w0_11, w0_12])), (a9, .inl (cC, 60, .inl f9))]) (L := fun (t1 : Int32) => [(0, .ref a0), (1, .long u1), (3, .int t1)]) (nL := 8) (pcx := 60) (res := res) (A := A) (H0 := s.heap) ?_ (fun hx1 => ?_)
  · intro t1 H locs hsp hP hD hS ls hl
    obtain ⟨x3, rfl⟩ : ∃ z, z = t1 := ⟨_, rfl⟩
    unfold s_X5_put_X1 at hsp; try dsimp only at hsp
    have hP : va_P D vwCl [(a0, .inr (5, [w0_0, w0_1, w0_2, w0_3, w0_4, w0_5, w0_6, w0_7, .ref a9, .int g0_9, w0_10, w0_11, w0_12])), (a9, .inl (cC, 60, .inl f9))] H := hP
    have hD : va_D A [(a0, .inr (5, [w0_0, w0_1, w0_2, w0_3, w0_4, w0_5, w0_6, w0_7, .ref a9, .int g0_9, w0_10, w0_11, w0_12])), (a9, .inl (cC, 60, .inl f9))] := hD
    have hl : lv_has ls 8 [(0, .ref a0), (1, .long u1), (3, .int x3)] := hl
    refine lv_iload_n hx hb dX5_put_60 rfl (lv_at hl 2 rfl) ?_
    refine lv_if_ne (tgt := 67) hx hb dX5_put_61 (by decide) (fun c4 => ?_) (fun c4 => ?_)
    · have hsp := itF hsp c4
      refine lv_aload_n hx hb dX5_put_67 rfl (lv_at hl 0 rfl) ?_
      refine va_get (D := D) (ci := 5) (v := .int g0_9) (C := RX5) (T := TX5) (N := 13) hx hb hts hi_X5 hown hK hP 0 rfl rfl 9 (by decide) hf_126 (fun _ h9 => h9) rfl dX5_put_68 ?_
      refine lv_iload_n hx hb dX5_put_71 rfl (lv_at hl 2 rfl) ?_
      refine lv_iadd hx hb dX5_put_72 ?_
      refine lv_bipush (v := 60) hx hb dX5_put_73 (by decide) ?_
      refine lv_icmp_le (tgt := 81) hx hb dX5_put_75 (by decide) (fun c5 => ?_) (fun c5 => ?_)
      · have hsp := itT hsp c5
        refine lv_iload_n hx hb dX5_put_81 rfl (lv_at hl 2 rfl) ?_
        refine lv_iconst (v := 1) hx hb dX5_put_82 (by decide) ?_
        refine lv_isub hx hb dX5_put_83 ?_
        obtain ⟨x6, ex6, hsp⟩ := nmE hsp
        refine r_top ex6 ?_
        refine lv_istore (lv' := [(6, .int x6), (0, .ref a0), (1, .long u1), (3, .int x3)]) hx hb dX5_put_84 hl (by decide) rfl (fun ls hl => ?_)
        refine ex_rule (D := D) (K := s_X5_put_X2) (P := fun (t2 : Int32 × (Nat → Int32)) => [(a0, .inr (5, [w0_0, w0_1, w0_2, w0_3, w0_4, w0_5, w0_6, w0_7, .ref a9, .int t2.1, w0_10, w0_11, w0_12])), (a9, .inl (cC, 60, .inl t2.2))]) (L := fun (t2 : Int32 × (Nat → Int32)) => [(0, .ref a0)]) (nL := 8) (pcx := 129) (res := res) (A := A) (H0 := s.heap) ?_ (fun hx2 => ?_)
        · intro t2 H locs hsp hP hD hS ls hl
          obtain ⟨x10, y11⟩ := t2
          unfold s_X5_put_X2 at hsp; try dsimp only at hsp
          have hP : va_P D vwCl [(a0, .inr (5, [w0_0, w0_1, w0_2, w0_3, w0_4, w0_5, w0_6, w0_7, .ref a9, .int x10, w0_10, w0_11, w0_12])), (a9, .inl (cC, 60, .inl y11))] H := hP
          have hD : va_D A [(a0, .inr (5, [w0_0, w0_1, w0_2, w0_3, w0_4, w0_5, w0_6, w0_7, .ref a9, .int x10, w0_10, w0_11, w0_12])), (a9, .inl (cC, 60, .inl y11))] := hD
          have hl : lv_has ls 8 [(0, .ref a0)] := hl
          refine lv_aload_n hx hb dX5_put_129 rfl (lv_at hl 0 rfl) ?_
          refine va_get (D := D) (ci := 5) (v := .int x10) (C := RX5) (T := TX5) (N := 13) hx hb hts hi_X5 hown hK hP 0 rfl rfl 9 (by decide) hf_126 (fun _ h9 => h9) rfl dX5_put_130 ?_
          have hres := Option.some.inj hsp
          subst hres
          exact W.iret (v := x10) hx hb hr (fun t ht hW => ⟨⟨x10, (), rfl, rfl, P_at ht hP⟩, hS.F ht⟩) hS.2.2 dX5_put_133
        have hl := lv_sub hl (l' := [(0, .ref a0), (1, .long u1), (6, .int x6)]) [1, 2, 0] rfl
        refine lp_rule (D := D) (F := s_X5_put_L2 u1 (s_X5_put_X2)) (P := fun (tv : Int32 × Int32 × (Nat → Int32)) => [(a0, .inr (5, [w0_0, w0_1, w0_2, w0_3, w0_4, w0_5, w0_6, w0_7, .ref a9, .int tv.2.1, w0_10, w0_11, w0_12])), (a9, .inl (cC, 60, .inl tv.2.2))]) (L := fun (tv : Int32 × Int32 × (Nat → Int32)) => [(0, .ref a0), (1, .long u1), (6, .int tv.1)]) (nL := 8) (res := res) (A := A) (H0 := s.heap) (fun _ => rfl) ?_ 1000 (x6, g0_9, f9) _ _ hsp hP hD hS _ hl
        · intro n2 ih2 tv H locs hsp hP hD hS ls hl
          obtain ⟨x7, x8, y9⟩ := tv
          have hsp : s_X5_put_B2  u1 (s_X5_put_X2) (s_X5_put_L2 u1 (s_X5_put_X2) n2) x7 x8 y9 = some res := hsp
          unfold s_X5_put_B2 at hsp
          have hP : va_P D vwCl [(a0, .inr (5, [w0_0, w0_1, w0_2, w0_3, w0_4, w0_5, w0_6, w0_7, .ref a9, .int x8, w0_10, w0_11, w0_12])), (a9, .inl (cC, 60, .inl y9))] H := hP
          have hD : va_D A [(a0, .inr (5, [w0_0, w0_1, w0_2, w0_3, w0_4, w0_5, w0_6, w0_7, .ref a9, .int x8, w0_10, w0_11, w0_12])), (a9, .inl (cC, 60, .inl y9))] := hD
          have hl : lv_has ls 8 [(0, .ref a0), (1, .long u1), (6, .int x7)] := hl
          refine lv_iload hx hb dX5_put_86 (lv_at hl 2 rfl) ?_
          refine lv_if_lt (tgt := 129) hx hb dX5_put_88 (by decide) (fun c12 => ?_) (fun c12 => ?_)
          · have hsp := itT hsp c12
            exact hx2 (x8, y9) _ _ hsp hP hD hS _ (lv_sub hl [0] rfl)
          have hsp := itF hsp c12
          refine lv_aload_n hx hb dX5_put_91 rfl (lv_at hl 0 rfl) ?_
          refine va_get (D := D) (ci := 5) (v := .ref a9) (C := RX5) (T := TX5) (N := 13) hx hb hts hi_X5 hown hK hP 0 rfl rfl 8 (by decide) hf_35 (fun _ h9 => h9) rfl dX5_put_92 ?_
          refine lv_aload_n hx hb dX5_put_95 rfl (lv_at hl 0 rfl) ?_
          refine va_get (D := D) (ci := 5) (v := .int x8) (C := RX5) (T := TX5) (N := 13) hx hb hts hi_X5 hown hK hP 0 rfl rfl 9 (by decide) hf_126 (fun _ h9 => h9) rfl dX5_put_96 ?_
          refine lv_lload_n hx hb dX5_put_99 rfl (lv_at hl 1 rfl) ?_
          refine lv_bipush (v := 8) hx hb dX5_put_100 (by decide) ?_
          refine lv_iload hx hb dX5_put_102 (lv_at hl 2 rfl) ?_
          refine lv_imul hx hb dX5_put_104 ?_
          refine lv_lushr (v := (u1.toUInt64 >>> ((8 * x7).toInt64.toUInt64 &&& Int64.toUInt64 63)).toInt64) hx hb dX5_put_105 rfl ?_
          refine lv_ldc2 (v := 255) hx hb hown hl2_188 dX5_put_106 ?_
          refine lv_land hx hb dX5_put_109 ?_
          refine lv_l2i (v := (((u1.toUInt64 >>> ((8 * x7).toInt64.toUInt64 &&& Int64.toUInt64 63)).toInt64) &&& 255).toInt32) hx hb dX5_put_110 rfl ?_
          refine lv_i2c (v := (((((u1.toUInt64 >>> ((8 * x7).toInt64.toUInt64 &&& Int64.toUInt64 63)).toInt64) &&& 255).toInt32).toUInt32 % 65536).toInt32) hx hb dX5_put_111 rfl ?_
          obtain ⟨x13, ex13, hsp⟩ := nmE hsp
          refine r_top ex13 ?_
          obtain ⟨y14, ey14, hny14, hsp⟩ := stoE hsp
          refine r_cast (ws' := [(a0, .inr (5, [w0_0, w0_1, w0_2, w0_3, w0_4, w0_5, w0_6, w0_7, .ref a9, .int x8, w0_10, w0_11, w0_12])), (a9, .inl (cC, 60, .inl y14))]) hx hb hK hP hD hS 1 2 rfl rfl ey14 hny14 rfl dX5_put_112 (fun H locs hP hD hS => ?_)
          refine lv_aload_n hx hb dX5_put_113 rfl (lv_at hl 0 rfl) ?_
          refine lv_dup hx hb dX5_put_114 rfl ?_
          refine va_get (D := D) (ci := 5) (v := .int x8) (C := RX5) (T := TX5) (N := 13) hx hb hts hi_X5 hown hK hP 0 rfl rfl 9 (by decide) hf_126 (fun _ h9 => h9) rfl dX5_put_115 ?_
          refine lv_iconst (v := 1) hx hb dX5_put_118 (by decide) ?_
          refine lv_iadd hx hb dX5_put_119 ?_
          obtain ⟨x15, ex15, hsp⟩ := nmE hsp
          refine r_top ex15 ?_
          refine va_put (D := D) (ci := 5) (v := .int x15) (ty := .int) (C := RX5) (T := TX5) (N := 13) hx hb hts hi_X5 tyX5 tyX5_ok nmX5 hown hK hP hD hS 0 rfl rfl 9 (by decide) hf_126 (fun _ h9 => h9) rfl (by decide +kernel) rfl rfl (Nat.le_of_ble_eq_true rfl) dX5_put_120 (fun H locs hP hD hS => ?_)
          have hP : va_P D vwCl [(a0, .inr (5, [w0_0, w0_1, w0_2, w0_3, w0_4, w0_5, w0_6, w0_7, .ref a9, .int x15, w0_10, w0_11, w0_12])), (a9, .inl (cC, 60, .inl y14))] H := hP
          have hD : va_D A [(a0, .inr (5, [w0_0, w0_1, w0_2, w0_3, w0_4, w0_5, w0_6, w0_7, .ref a9, .int x15, w0_10, w0_11, w0_12])), (a9, .inl (cC, 60, .inl y14))] := hD
          obtain ⟨x16, ex16, hsp⟩ := nmE hsp
          refine lv_iinc (k := 2) (v := x16) (lv' := [(6, .int x16), (0, .ref a0), (1, .long u1)]) hx hb dX5_put_123 hl rfl (by rw [ex16]; rfl) (by decide) rfl (fun ls hl => ?_)
          refine lv_goto (tgt := 86) hx hb dX5_put_126 (by decide) ?_
          exact ih2 (x16, x15, y14) _ _ hsp hP hD hS _ (lv_sub hl [1, 2, 0] rfl)
      have hsp := itF hsp c5
      refine lv_bipush (v := (-4)) hx hb dX5_put_78 (by decide) ?_
      have hres := Option.some.inj hsp
      subst hres
      exact W.iret (v := (-4)) hx hb hr (fun t ht hW => ⟨⟨(-4), (), rfl, rfl, P_at ht hP⟩, hS.F ht⟩) hS.2.2 dX5_put_80
    have hsp := itT hsp c4
    refine lv_bipush (v := (-2)) hx hb dX5_put_64 (by decide) ?_
    have hres := Option.some.inj hsp
    subst hres
    exact W.iret (v := (-2)) hx hb hr (fun t ht hW => ⟨⟨(-2), (), rfl, rfl, P_at ht hP⟩, hS.F ht⟩) hS.2.2 dX5_put_66
  have hl := lv_sub hl (l' := [(0, .ref a0), (1, .long u1), (3, .int 0), (4, .long u1)]) [2, 3, 1, 0] rfl
  refine lp_rule (D := D) (F := s_X5_put_L1 g0_9 f9 (s_X5_put_X1 g0_9 f9 u1)) (P := fun (tv : Int32 × Int64) => [(a0, .inr (5, [w0_0, w0_1, w0_2, w0_3, w0_4, w0_5, w0_6, w0_7, .ref a9, .int g0_9, w0_10, w0_11, w0_12])), (a9, .inl (cC, 60, .inl f9))]) (L := fun (tv : Int32 × Int64) => [(0, .ref a0), (1, .long u1), (3, .int tv.1), (4, .long tv.2)]) (nL := 8) (res := res) (A := A) (H0 := s.heap) (fun _ => rfl) ?_ 1000 (0, u1) _ _ hsp hP hD hS _ hl
  · intro n1 ih1 tv H locs hsp hP hD hS ls hl
    obtain ⟨x1, x2⟩ := tv
    have hsp : s_X5_put_B1  g0_9 f9 (s_X5_put_X1 g0_9 f9 u1) (s_X5_put_L1 g0_9 f9 (s_X5_put_X1 g0_9 f9 u1) n1) x1 x2 = some res := hsp
    unfold s_X5_put_B1 at hsp
    have hP : va_P D vwCl [(a0, .inr (5, [w0_0, w0_1, w0_2, w0_3, w0_4, w0_5, w0_6, w0_7, .ref a9, .int g0_9, w0_10, w0_11, w0_12])), (a9, .inl (cC, 60, .inl f9))] H := hP
    have hD : va_D A [(a0, .inr (5, [w0_0, w0_1, w0_2, w0_3, w0_4, w0_5, w0_6, w0_7, .ref a9, .int g0_9, w0_10, w0_11, w0_12])), (a9, .inl (cC, 60, .inl f9))] := hD
    have hl : lv_has ls 8 [(0, .ref a0), (1, .long u1), (3, .int x1), (4, .long x2)] := hl
    refine lv_iload_n hx hb dX5_put_5 rfl (lv_at hl 2 rfl) ?_
    refine lv_bipush (v := 8) hx hb dX5_put_6 (by decide) ?_
    refine lv_icmp_ge (tgt := 60) hx hb dX5_put_8 (by decide) (fun c17 => ?_) (fun c17 => ?_)
    · have hsp := itT hsp c17
      exact hx1 x1 _ _ hsp hP hD hS _ (lv_sub hl [0, 1, 2] rfl)
    have hsp := itF hsp c17
    refine lv_lload hx hb dX5_put_11 (lv_at hl 3 rfl) ?_
    refine lv_lconst (v := 0) hx hb dX5_put_13 (by decide) ?_
    refine W.lcmp hx hb dX5_put_14 ?_
    refine lv_if_eq (tgt := 60) hx hb dX5_put_15 (by decide) (fun c18 => ?_) (fun c18 => ?_)
    · have hsp := itT hsp c18
      exact hx1 x1 _ _ hsp hP hD hS _ (lv_sub hl [0, 1, 2] rfl)
    have hsp := itF hsp c18
    refine lv_lload hx hb dX5_put_18 (lv_at hl 3 rfl) ?_
    refine lv_ldc2 (v := 255) hx hb hown hl2_188 dX5_put_20 ?_
    refine lv_land hx hb dX5_put_23 ?_
    obtain ⟨x19, ex19, hsp⟩ := nmE hsp
    refine r_topl ex19 ?_
    refine lv_lstore (lv' := [(6, .long x19), (0, .ref a0), (1, .long u1), (3, .int x1), (4, .long x2)]) hx hb dX5_put_24 hl (by decide) rfl (fun ls hl => ?_)
    refine lv_lload hx hb dX5_put_26 (lv_at hl 0 rfl) ?_
    refine lv_ldc2 (v := 33) hx hb hown hl2_190 dX5_put_28 ?_
    refine W.lcmp hx hb dX5_put_31 ?_
    refine lv_if_lt (tgt := 44) hx hb dX5_put_32 (by decide) (fun c20 => ?_) (fun c20 => ?_)
    · have hsp := itT hsp c20
      refine lv_bipush (v := (-2)) hx hb dX5_put_44 (by decide) ?_
      have hres := Option.some.inj hsp
      subst hres
      exact W.iret (v := (-2)) hx hb hr (fun t ht hW => ⟨⟨(-2), (), rfl, rfl, P_at ht hP⟩, hS.F ht⟩) hS.2.2 dX5_put_46
    have hsp := itF hsp c20
    refine lv_lload hx hb dX5_put_35 (lv_at hl 0 rfl) ?_
    refine lv_ldc2 (v := 126) hx hb hown hl2_192 dX5_put_37 ?_
    refine W.lcmp hx hb dX5_put_40 ?_
    refine lv_if_le (tgt := 47) hx hb dX5_put_41 (by decide) (fun c21 => ?_) (fun c21 => ?_)
    · have hsp := itT hsp c21
      refine lv_lload hx hb dX5_put_47 (lv_at hl 4 rfl) ?_
      refine lv_bipush (v := 8) hx hb dX5_put_49 (by decide) ?_
      refine lv_lushr (v := (x2.toUInt64 >>> ((8 : Int32).toInt64.toUInt64 &&& Int64.toUInt64 63)).toInt64) hx hb dX5_put_51 rfl ?_
      obtain ⟨x22, ex22, hsp⟩ := nmE hsp
      refine r_topl ex22 ?_
      refine lv_lstore (lv' := [(4, .long x22), (6, .long x19), (0, .ref a0), (1, .long u1), (3, .int x1)]) hx hb dX5_put_52 hl (by decide) rfl (fun ls hl => ?_)
      obtain ⟨x23, ex23, hsp⟩ := nmE hsp
      refine lv_iinc (k := 4) (v := x23) (lv' := [(3, .int x23), (4, .long x22), (6, .long x19), (0, .ref a0), (1, .long u1)]) hx hb dX5_put_54 hl rfl (by rw [ex23]; rfl) (by decide) rfl (fun ls hl => ?_)
      refine lv_goto (tgt := 5) hx hb dX5_put_57 (by decide) ?_
      exact ih1 (x23, x22) _ _ hsp hP hD hS _ (lv_sub hl [3, 4, 0, 1] rfl)
    have hsp := itF hsp c21
    refine lv_bipush (v := (-2)) hx hb dX5_put_44 (by decide) ?_
    have hres := Option.some.inj hsp
    subst hres
    exact W.iret (v := (-2)) hx hb hr (fun t ht hW => ⟨⟨(-2), (), rfl, rfl, P_at ht hP⟩, hS.F ht⟩) hS.2.2 dX5_put_46

theorem nd_X5_restore : yX5_restore.cls = RX5 ∧ yX5_restore.cls ≠ "java/lang/invoke/MethodHandle" ∧ yX5_restore.cls ≠ "java/lang/invoke/VarHandle" ∧ (parseMethodDescriptor yX5_restore.desc).map (fun d => d.parameters.length) = some 1 := by decide +kernel
set_option maxHeartbeats 8000000 in
set_option maxRecDepth 100000 in
theorem k_X5_restore (l : Launch) (D : va_G) (cI cZ cC cS : ClassId) (sz : Nat) (a0 a1 a2 a3 a4 a5 : Nat) (w0_5 : Value) (w0_6 : Value) (w0_7 : Value) (w0_8 : Value) (w0_9 : Value) (g0_10 : Int32) (w0_11 : Value) (w0_12 : Value) (f1 : Nat → Int32) (f2 : Nat → Int32) (f3 : Nat → Int32) (f4 : Nat → Int32) (f5 : Nat → Int32) (u1 : Int32) (res : Int32 × Int32 × (Nat → Int32) × (Nat → Int32) × (Nat → Int32)) (hsp : s_X5_restore g0_10 f1 f2 f3 f4 f5 u1 = some res) : Met l yX5_restore wsX5_restore ({ frames := 2, cells := 0, slots := 0, locals := 43 }) (va_Pc [.ref a0, .int u1] (PB D cI cZ cC cS [(a0, .inr (5, [.ref a1, .ref a2, .ref a3, .ref a4, .ref a5, w0_5, w0_6, w0_7, w0_8, w0_9, .int g0_10, w0_11, w0_12])), (a1, .inl (cI, 99, .inl f1)), (a2, .inl (cI, 99, .inl f2)), (a3, .inl (cI, 594, .inl f3)), (a4, .inl (cI, 198, .inl f4)), (a5, .inl (cZ, 2, .inl f5))] sz)) (va_Qi (fun r (_ : Unit) => r = res.1) (fun _ t => va_P D vwCl [(a0, .inr (5, [.ref a1, .ref a2, .ref a3, .ref a4, .ref a5, w0_5, w0_6, w0_7, w0_8, w0_9, .int res.2.1, w0_11, w0_12])), (a1, .inl (cI, 99, .inl res.2.2.1)), (a2, .inl (cI, 99, .inl res.2.2.2.1)), (a3, .inl (cI, 594, .inl res.2.2.2.2)), (a4, .inl (cI, 198, .inl f4)), (a5, .inl (cZ, 2, .inl f5))] t.heap) (va_A [(a0, .inr (5, [.ref a1, .ref a2, .ref a3, .ref a4, .ref a5, w0_5, w0_6, w0_7, w0_8, w0_9, .int g0_10, w0_11, w0_12])), (a1, .inl (cI, 99, .inl f1)), (a2, .inl (cI, 99, .inl f2)), (a3, .inl (cI, 594, .inl f3)), (a4, .inl (cI, 198, .inl f4)), (a5, .inl (cZ, 2, .inl f5))] sz)) 0 0 (va_A [(a0, .inr (5, [.ref a1, .ref a2, .ref a3, .ref a4, .ref a5, w0_5, w0_6, w0_7, w0_8, w0_9, .int g0_10, w0_11, w0_12])), (a1, .inl (cI, 99, .inl f1)), (a2, .inl (cI, 99, .inl f2)), (a3, .inl (cI, 594, .inl f3)), (a4, .inl (cI, 198, .inl f4)), (a5, .inl (cZ, 2, .inl f5))] sz) := by
  refine Met.ofW (cc := cX5_restore) (maxL := 3) (ret := (some .int)) (by decide) rfl ?_
  intro p e s m args below meth c s₁ B hml hv
  obtain ⟨rfl, hsz, hP, hD0, hKU⟩ := hv
  have hx := B.exec
  have hb := B.bytes
  have hr := B.returns
  have hts := atoms_spec (ws := wsX5_restore) B.pre
  have hown : s.vm.findClass RX5 = some m.cls := findClass_of_methodNamed B.named
  have hlocks := B.notSynchronized
  have hK := hKU.1
  have hf_22 := hts (.fieldLink RX5 22 "ThinnedPotsModel" "isSaved" "[Z") (by decide +kernel)
  have hi_X5 : ∀ w ∈ u_ws RX5 TX5 13, w ∈ wsX5_restore := by decide +kernel
  have hf_7 := hts (.fieldLink RX5 7 "ThinnedPotsModel" "s" "[I") (by decide +kernel)
  have hf_19 := hts (.fieldLink RX5 19 "ThinnedPotsModel" "saved" "[I") (by decide +kernel)
  subst hsz
  have hD := hD0.self (sz := s.heap.size)
  generalize hAe : va_A [(a0, .inr (5, [.ref a1, .ref a2, .ref a3, .ref a4, .ref a5, w0_5, w0_6, w0_7, w0_8, w0_9, .int g0_10, w0_11, w0_12])), (a1, .inl (cI, 99, .inl f1)), (a2, .inl (cI, 99, .inl f2)), (a3, .inl (cI, 594, .inl f3)), (a4, .inl (cI, 198, .inl f4)), (a5, .inl (cZ, 2, .inl f5))] s.heap.size = A at hD ⊢
  have hA : ∀ q : Nat, s.heap.size ≤ q → A q := fun q h => by rw [← hAe]; exact Or.inr h
  have hP : va_P D vwCl [(a0, .inr (5, [.ref a1, .ref a2, .ref a3, .ref a4, .ref a5, w0_5, w0_6, w0_7, w0_8, w0_9, .int g0_10, w0_11, w0_12])), (a1, .inl (cI, 99, .inl f1)), (a2, .inl (cI, 99, .inl f2)), (a3, .inl (cI, 594, .inl f3)), (a4, .inl (cI, 198, .inl f4)), (a5, .inl (cZ, 2, .inl f5))] s.heap := hP
  generalize hHe : s.heap = H at hP ⊢
  have hS : va_S A s.heap H [] := by rw [hHe]; exact va_S.rf
  have hl := lv_entry ([.ref a0, .int u1]) (n := 3) (Nat.le_of_ble_eq_true rfl)
  rw [lg_entry_eq]
  generalize (lg_sl ([.ref a0, .int u1]) ++ List.replicate (3 - (lg_sl ([.ref a0, .int u1])).length) Slot.unset).toArray = ls at hl ⊢
  have hl : lv_has ls 3 [(0, .ref a0), (1, .int u1)] := hl
  unfold s_X5_restore at hsp
  refine lv_iload_n hx hb dX5_restore_0 rfl (lv_at hl 1 rfl) ?_
  refine lv_iconst (v := 0) hx hb dX5_restore_1 (by decide) ?_
  refine lv_iconst (v := 1) hx hb dX5_restore_2 (by decide) ?_
  obtain ⟨r1, hcr1, hsp⟩ := clE hsp
  refine call_z (w1 := []) (ws' := [(a0, .inr (5, [.ref a1, .ref a2, .ref a3, .ref a4, .ref a5, w0_5, w0_6, w0_7, w0_8, w0_9, .int g0_10, w0_11, w0_12])), (a1, .inl (cI, 99, .inl f1)), (a2, .inl (cI, 99, .inl f2)), (a3, .inl (cI, 594, .inl f3)), (a4, .inl (cI, 198, .inl f4)), (a5, .inl (cZ, 2, .inl f5))]) (va_runS (As := [.int u1, .int 0, .int 1]) (rest := []) ⟨hx, hb, hml, hown, hts⟩ (k_X5_in l D cI cZ cC cS H.size u1 0 1 r1 hcr1) (va_cwS 3 hts gX5_restore_X5_in rfl rfl rfl nd_X5_in.2 ⟨Nat.le_of_ble_eq_true rfl, Nat.le_of_ble_eq_true rfl⟩) (PB.preS hKU hP hD [] rfl rfl) rfl rfl hl.1 rfl (lv_room (Nat.le_of_ble_eq_true rfl)) dX5_restore_3 ⟨Nat.zero_le _, Nat.zero_le _⟩) hS hP hD hA [] rfl rfl (by first | (simp only [wset, List.set_cons_zero, List.set_cons_succ]; done) | rfl) rfl (fun H locs hP hD hS hzr1 => ?_)
  refine lv_if_ne (tgt := 12) hx hb dX5_restore_6 (by decide) (fun c2 => ?_) (fun c2 => ?_)
  · have hsp := itF hsp c2
    refine lv_aload_n hx hb dX5_restore_12 rfl (lv_at hl 0 rfl) ?_
    refine va_get (D := D) (ci := 5) (v := .ref a5) (C := RX5) (T := TX5) (N := 13) hx hb hts hi_X5 hown hK hP 0 rfl rfl 4 (by decide) hf_22 (fun _ h9 => h9) rfl dX5_restore_13 ?_
    refine lv_iload_n hx hb dX5_restore_16 rfl (lv_at hl 1 rfl) ?_
    obtain ⟨x3, ex3, hnx3, hsp⟩ := ldE hsp
    refine r_zald hx hb hK hP 5 1 rfl rfl ex3 hnx3 dX5_restore_17 ?_
    refine lv_if_ne (tgt := 24) hx hb dX5_restore_18 (by decide) (fun c4 => ?_) (fun c4 => ?_)
    · have hsp := itF hsp c4
      refine lv_aload_n hx hb dX5_restore_24 rfl (lv_at hl 0 rfl) ?_
      obtain ⟨r5, hcr5, hsp⟩ := clE hsp
      refine call_v (w1 := [(a0, .inr (5, [.ref a1, .ref a2, .ref a3, .ref a4, .ref a5, w0_5, w0_6, w0_7, w0_8, w0_9, .int g0_10, w0_11, w0_12])), (a1, .inl (cI, 99, .inl f1)), (a2, .inl (cI, 99, .inl r5))]) (ws' := [(a0, .inr (5, [.ref a1, .ref a2, .ref a3, .ref a4, .ref a5, w0_5, w0_6, w0_7, w0_8, w0_9, .int g0_10, w0_11, w0_12])), (a1, .inl (cI, 99, .inl f1)), (a2, .inl (cI, 99, .inl r5)), (a3, .inl (cI, 594, .inl f3)), (a4, .inl (cI, 198, .inl f4)), (a5, .inl (cZ, 2, .inl f5))]) (va_runV (As := []) (rest := []) ⟨hx, hb, hml, hown, hts⟩ (k_X5_hold l D cI cZ cC cS H.size a0 a1 a2 (.ref a3) (.ref a4) (.ref a5) (w0_5) (w0_6) (w0_7) (w0_8) (w0_9) (.int g0_10) (w0_11) (w0_12) f1 f2 r5 hcr5) (cwV 0 hts gX5_restore_X5_hold rfl rfl rfl nd_X5_hold ⟨Nat.le_of_ble_eq_true rfl, Nat.le_of_ble_eq_true rfl⟩) (PB.preV (ci := 5) (q0 := 0) hKU hP hD [0, 1, 2] rfl rfl rfl rfl) rfl rfl hl.1 rfl (lv_room (Nat.le_of_ble_eq_true rfl)) dX5_restore_25 ⟨Nat.zero_le _, Nat.zero_le _⟩) hS hP hD hA [0, 1, 2] rfl rfl (by first | (simp only [wset, List.set_cons_zero, List.set_cons_succ]; done) | rfl) rfl (fun H locs hP hD hS => ?_)
      refine lv_iconst (v := 0) hx hb dX5_restore_28 (by decide) ?_
      refine lv_istore_n (lv' := [(2, .int 0), (0, .ref a0), (1, .int u1)]) hx hb dX5_restore_29 rfl hl (by decide) rfl (fun ls hl => ?_)
      refine ex_rule (D := D) (K := s_X5_restore_X1 g0_10 r5 f3) (P := fun (t1 : (Nat → Int32)) => [(a0, .inr (5, [.ref a1, .ref a2, .ref a3, .ref a4, .ref a5, w0_5, w0_6, w0_7, w0_8, w0_9, .int g0_10, w0_11, w0_12])), (a1, .inl (cI, 99, .inl t1)), (a2, .inl (cI, 99, .inl r5)), (a3, .inl (cI, 594, .inl f3)), (a4, .inl (cI, 198, .inl f4)), (a5, .inl (cZ, 2, .inl f5))]) (L := fun (t1 : (Nat → Int32)) => [(0, .ref a0)]) (nL := 3) (pcx := 59) (res := res) (A := A) (H0 := s.heap) ?_ (fun hx1 => ?_)
      · intro t1 H locs hsp hP hD hS ls hl
        obtain ⟨y8, rfl⟩ : ∃ z, z = t1 := ⟨_, rfl⟩
        unfold s_X5_restore_X1 at hsp; try dsimp only at hsp
        have hP : va_P D vwCl [(a0, .inr (5, [.ref a1, .ref a2, .ref a3, .ref a4, .ref a5, w0_5, w0_6, w0_7, w0_8, w0_9, .int g0_10, w0_11, w0_12])), (a1, .inl (cI, 99, .inl y8)), (a2, .inl (cI, 99, .inl r5)), (a3, .inl (cI, 594, .inl f3)), (a4, .inl (cI, 198, .inl f4)), (a5, .inl (cZ, 2, .inl f5))] H := hP
        have hD : va_D A [(a0, .inr (5, [.ref a1, .ref a2, .ref a3, .ref a4, .ref a5, w0_5, w0_6, w0_7, w0_8, w0_9, .int g0_10, w0_11, w0_12])), (a1, .inl (cI, 99, .inl y8)), (a2, .inl (cI, 99, .inl r5)), (a3, .inl (cI, 594, .inl f3)), (a4, .inl (cI, 198, .inl f4)), (a5, .inl (cZ, 2, .inl f5))] := hD
        have hl : lv_has ls 3 [(0, .ref a0)] := hl
        refine lv_aload_n hx hb dX5_restore_59 rfl (lv_at hl 0 rfl) ?_
        refine lv_aload_n hx hb dX5_restore_60 rfl (lv_at hl 0 rfl) ?_
        obtain ⟨r9, hcr9, hsp⟩ := clE hsp
        refine call_i (w1 := [(a0, .inr (5, [.ref a1, .ref a2, .ref a3, .ref a4, .ref a5, w0_5, w0_6, w0_7, w0_8, w0_9, .int g0_10, w0_11, w0_12])), (a1, .inl (cI, 99, .inl y8))]) (ws' := [(a0, .inr (5, [.ref a1, .ref a2, .ref a3, .ref a4, .ref a5, w0_5, w0_6, w0_7, w0_8, w0_9, .int g0_10, w0_11, w0_12])), (a1, .inl (cI, 99, .inl y8)), (a2, .inl (cI, 99, .inl r5)), (a3, .inl (cI, 594, .inl f3)), (a4, .inl (cI, 198, .inl f4)), (a5, .inl (cZ, 2, .inl f5))]) (va_runV (As := []) (rest := [.ref a0]) ⟨hx, hb, hml, hown, hts⟩ (k_X5_inPots l D cI cZ cC cS H.size a0 a1 (.ref a2) (.ref a3) (.ref a4) (.ref a5) (w0_5) (w0_6) (w0_7) (w0_8) (w0_9) (.int g0_10) (w0_11) (w0_12) y8 r9 hcr9) (cwV 0 hts gX5_restore_X5_inPots rfl rfl rfl nd_X5_inPots ⟨Nat.le_of_ble_eq_true rfl, Nat.le_of_ble_eq_true rfl⟩) (PB.preV (ci := 5) (q0 := 0) hKU hP hD [0, 1] rfl rfl rfl rfl) rfl rfl hl.1 rfl (lv_room (Nat.le_of_ble_eq_true rfl)) dX5_restore_61 ⟨Nat.zero_le _, Nat.zero_le _⟩) hS hP hD hA [0, 1] rfl rfl (by first | (simp only [wset, List.set_cons_zero, List.set_cons_succ]; done) | rfl) rfl (fun H locs hP hD hS => ?_)
        obtain ⟨r10, hcr10, hsp⟩ := clE hsp
        refine call_i (w1 := [(a0, .inr (5, [.ref a1, .ref a2, .ref a3, .ref a4, .ref a5, w0_5, w0_6, w0_7, w0_8, w0_9, .int r10.2.1, w0_11, w0_12])), (a2, .inl (cI, 99, .inl r5)), (a3, .inl (cI, 594, .inl r10.2.2))]) (ws' := [(a0, .inr (5, [.ref a1, .ref a2, .ref a3, .ref a4, .ref a5, w0_5, w0_6, w0_7, w0_8, w0_9, .int r10.2.1, w0_11, w0_12])), (a1, .inl (cI, 99, .inl y8)), (a2, .inl (cI, 99, .inl r5)), (a3, .inl (cI, 594, .inl r10.2.2)), (a4, .inl (cI, 198, .inl f4)), (a5, .inl (cZ, 2, .inl f5))]) (va_runV (As := [.int r9]) (rest := []) ⟨hx, hb, hml, hown, hts⟩ (k_X5_recorded l D cI cZ cC cS H.size a0 a2 a3 (.ref a1) (.ref a4) (.ref a5) (w0_5) (w0_6) (w0_7) (w0_8) (w0_9) g0_10 (w0_11) (w0_12) r5 f3 r9 r10 hcr10) (cwV 1 hts gX5_restore_X5_recorded rfl rfl rfl nd_X5_recorded ⟨Nat.le_of_ble_eq_true rfl, Nat.le_of_ble_eq_true rfl⟩) (PB.preV (ci := 5) (q0 := 0) hKU hP hD [0, 2, 3] rfl rfl rfl rfl) rfl rfl hl.1 rfl (lv_room (Nat.le_of_ble_eq_true rfl)) dX5_restore_64 ⟨Nat.zero_le _, Nat.zero_le _⟩) hS hP hD hA [0, 2, 3] rfl rfl (by first | (simp only [wset, List.set_cons_zero, List.set_cons_succ]; done) | rfl) rfl (fun H locs hP hD hS => ?_)
        have hres := Option.some.inj hsp
        subst hres
        exact W.iret (v := r10.1) hx hb hr (fun t ht hW => ⟨⟨r10.1, (), rfl, rfl, P_at ht hP⟩, hS.F ht⟩) hS.2.2 dX5_restore_67
      have hl := lv_sub hl (l' := [(0, .ref a0), (1, .int u1), (2, .int 0)]) [1, 2, 0] rfl
      refine lp_rule (D := D) (F := s_X5_restore_L1 f4 u1 (s_X5_restore_X1 g0_10 r5 f3)) (P := fun (tv : Int32 × (Nat → Int32)) => [(a0, .inr (5, [.ref a1, .ref a2, .ref a3, .ref a4, .ref a5, w0_5, w0_6, w0_7, w0_8, w0_9, .int g0_10, w0_11, w0_12])), (a1, .inl (cI, 99, .inl tv.2)), (a2, .inl (cI, 99, .inl r5)), (a3, .inl (cI, 594, .inl f3)), (a4, .inl (cI, 198, .inl f4)), (a5, .inl (cZ, 2, .inl f5))]) (L := fun (tv : Int32 × (Nat → Int32)) => [(0, .ref a0), (1, .int u1), (2, .int tv.1)]) (nL := 3) (res := res) (A := A) (H0 := s.heap) (fun _ => rfl) ?_ 1000 (0, f1) _ _ hsp hP hD hS _ hl
      · intro n1 ih1 tv H locs hsp hP hD hS ls hl
        obtain ⟨x6, y7⟩ := tv
        have hsp : s_X5_restore_B1  f4 u1 (s_X5_restore_X1 g0_10 r5 f3) (s_X5_restore_L1 f4 u1 (s_X5_restore_X1 g0_10 r5 f3) n1) x6 y7 = some res := hsp
        unfold s_X5_restore_B1 at hsp
        have hP : va_P D vwCl [(a0, .inr (5, [.ref a1, .ref a2, .ref a3, .ref a4, .ref a5, w0_5, w0_6, w0_7, w0_8, w0_9, .int g0_10, w0_11, w0_12])), (a1, .inl (cI, 99, .inl y7)), (a2, .inl (cI, 99, .inl r5)), (a3, .inl (cI, 594, .inl f3)), (a4, .inl (cI, 198, .inl f4)), (a5, .inl (cZ, 2, .inl f5))] H := hP
        have hD : va_D A [(a0, .inr (5, [.ref a1, .ref a2, .ref a3, .ref a4, .ref a5, w0_5, w0_6, w0_7, w0_8, w0_9, .int g0_10, w0_11, w0_12])), (a1, .inl (cI, 99, .inl y7)), (a2, .inl (cI, 99, .inl r5)), (a3, .inl (cI, 594, .inl f3)), (a4, .inl (cI, 198, .inl f4)), (a5, .inl (cZ, 2, .inl f5))] := hD
        have hl : lv_has ls 3 [(0, .ref a0), (1, .int u1), (2, .int x6)] := hl
        refine lv_iload_n hx hb dX5_restore_30 rfl (lv_at hl 2 rfl) ?_
        refine lv_bipush (v := 99) hx hb dX5_restore_31 (by decide) ?_
        refine lv_icmp_ge (tgt := 59) hx hb dX5_restore_33 (by decide) (fun c11 => ?_) (fun c11 => ?_)
        · have hsp := itT hsp c11
          exact hx1 y7 _ _ hsp hP hD hS _ (lv_sub hl [0] rfl)
        have hsp := itF hsp c11
        refine lv_aload_n hx hb dX5_restore_36 rfl (lv_at hl 0 rfl) ?_
        refine va_get (D := D) (ci := 5) (v := .ref a1) (C := RX5) (T := TX5) (N := 13) hx hb hts hi_X5 hown hK hP 0 rfl rfl 0 (by decide) hf_7 (fun _ h9 => h9) rfl dX5_restore_37 ?_
        refine lv_iload_n hx hb dX5_restore_40 rfl (lv_at hl 2 rfl) ?_
        refine lv_aload_n hx hb dX5_restore_41 rfl (lv_at hl 0 rfl) ?_
        refine va_get (D := D) (ci := 5) (v := .ref a4) (C := RX5) (T := TX5) (N := 13) hx hb hts hi_X5 hown hK hP 0 rfl rfl 3 (by decide) hf_19 (fun _ h9 => h9) rfl dX5_restore_42 ?_
        refine lv_bipush (v := 99) hx hb dX5_restore_45 (by decide) ?_
        refine lv_iload_n hx hb dX5_restore_47 rfl (lv_at hl 1 rfl) ?_
        refine lv_imul hx hb dX5_restore_48 ?_
        refine lv_iload_n hx hb dX5_restore_49 rfl (lv_at hl 2 rfl) ?_
        refine lv_iadd hx hb dX5_restore_50 ?_
        obtain ⟨x12, ex12, hnx12, hsp⟩ := ldE hsp
        refine r_iald hx hb hK hP 4 0 rfl rfl ex12 hnx12 dX5_restore_51 ?_
        obtain ⟨y13, ey13, hny13, hsp⟩ := stoE hsp
        refine r_iast (ws' := [(a0, .inr (5, [.ref a1, .ref a2, .ref a3, .ref a4, .ref a5, w0_5, w0_6, w0_7, w0_8, w0_9, .int g0_10, w0_11, w0_12])), (a1, .inl (cI, 99, .inl y13)), (a2, .inl (cI, 99, .inl r5)), (a3, .inl (cI, 594, .inl f3)), (a4, .inl (cI, 198, .inl f4)), (a5, .inl (cZ, 2, .inl f5))]) hx hb hK hP hD hS 1 0 rfl rfl ey13 hny13 rfl dX5_restore_52 (fun H locs hP hD hS => ?_)
        obtain ⟨x14, ex14, hsp⟩ := nmE hsp
        refine lv_iinc (k := 2) (v := x14) (lv' := [(2, .int x14), (0, .ref a0), (1, .int u1)]) hx hb dX5_restore_53 hl rfl (by rw [ex14]; rfl) (by decide) rfl (fun ls hl => ?_)
        refine lv_goto (tgt := 30) hx hb dX5_restore_56 (by decide) ?_
        exact ih1 (x14, y13) _ _ hsp hP hD hS _ (lv_sub hl [1, 2, 0] rfl)
    have hsp := itT hsp c4
    refine lv_bipush (v := (-5)) hx hb dX5_restore_21 (by decide) ?_
    have hres := Option.some.inj hsp
    subst hres
    exact W.iret (v := (-5)) hx hb hr (fun t ht hW => ⟨⟨(-5), (), rfl, rfl, P_at ht hP⟩, hS.F ht⟩) hS.2.2 dX5_restore_23
  have hsp := itT hsp c2
  refine lv_bipush (v := (-2)) hx hb dX5_restore_9 (by decide) ?_
  have hres := Option.some.inj hsp
  subst hres
  exact W.iret (v := (-2)) hx hb hr (fun t ht hW => ⟨⟨(-2), (), rfl, rfl, P_at ht hP⟩, hS.F ht⟩) hS.2.2 dX5_restore_11

theorem nd_X5_rinse : yX5_rinse.cls = RX5 ∧ yX5_rinse.cls ≠ "java/lang/invoke/MethodHandle" ∧ yX5_rinse.cls ≠ "java/lang/invoke/VarHandle" ∧ (parseMethodDescriptor yX5_rinse.desc).map (fun d => d.parameters.length) = some 0 := by decide +kernel
set_option maxHeartbeats 8000000 in
set_option maxRecDepth 100000 in
theorem k_X5_rinse (l : Launch) (D : va_G) (cI cZ cC cS : ClassId) (sz : Nat) (a0 a1 a2 a3 : Nat) (w0_3 : Value) (w0_4 : Value) (w0_5 : Value) (w0_6 : Value) (w0_7 : Value) (w0_8 : Value) (w0_9 : Value) (g0_10 : Int32) (w0_11 : Value) (w0_12 : Value) (f1 : Nat → Int32) (f2 : Nat → Int32) (f3 : Nat → Int32) (res : Int32 × Int32 × (Nat → Int32) × (Nat → Int32) × (Nat → Int32)) (hsp : s_X5_rinse g0_10 f1 f2 f3 = some res) : Met l yX5_rinse wsX5_rinse ({ frames := 2, cells := 0, slots := 0, locals := 43 }) (va_Pc [.ref a0] (PB D cI cZ cC cS [(a0, .inr (5, [.ref a1, .ref a2, .ref a3, w0_3, w0_4, w0_5, w0_6, w0_7, w0_8, w0_9, .int g0_10, w0_11, w0_12])), (a1, .inl (cI, 99, .inl f1)), (a2, .inl (cI, 99, .inl f2)), (a3, .inl (cI, 594, .inl f3))] sz)) (va_Qi (fun r (_ : Unit) => r = res.1) (fun _ t => va_P D vwCl [(a0, .inr (5, [.ref a1, .ref a2, .ref a3, w0_3, w0_4, w0_5, w0_6, w0_7, w0_8, w0_9, .int res.2.1, w0_11, w0_12])), (a1, .inl (cI, 99, .inl res.2.2.1)), (a2, .inl (cI, 99, .inl res.2.2.2.1)), (a3, .inl (cI, 594, .inl res.2.2.2.2))] t.heap) (va_A [(a0, .inr (5, [.ref a1, .ref a2, .ref a3, w0_3, w0_4, w0_5, w0_6, w0_7, w0_8, w0_9, .int g0_10, w0_11, w0_12])), (a1, .inl (cI, 99, .inl f1)), (a2, .inl (cI, 99, .inl f2)), (a3, .inl (cI, 594, .inl f3))] sz)) 0 0 (va_A [(a0, .inr (5, [.ref a1, .ref a2, .ref a3, w0_3, w0_4, w0_5, w0_6, w0_7, w0_8, w0_9, .int g0_10, w0_11, w0_12])), (a1, .inl (cI, 99, .inl f1)), (a2, .inl (cI, 99, .inl f2)), (a3, .inl (cI, 594, .inl f3))] sz) := by
  refine Met.ofW (cc := cX5_rinse) (maxL := 1) (ret := (some .int)) (by decide) rfl ?_
  intro p e s m args below meth c s₁ B hml hv
  obtain ⟨rfl, hsz, hP, hD0, hKU⟩ := hv
  have hx := B.exec
  have hb := B.bytes
  have hr := B.returns
  have hts := atoms_spec (ws := wsX5_rinse) B.pre
  have hown : s.vm.findClass RX5 = some m.cls := findClass_of_methodNamed B.named
  have hlocks := B.notSynchronized
  have hK := hKU.1
  subst hsz
  have hD := hD0.self (sz := s.heap.size)
  generalize hAe : va_A [(a0, .inr (5, [.ref a1, .ref a2, .ref a3, w0_3, w0_4, w0_5, w0_6, w0_7, w0_8, w0_9, .int g0_10, w0_11, w0_12])), (a1, .inl (cI, 99, .inl f1)), (a2, .inl (cI, 99, .inl f2)), (a3, .inl (cI, 594, .inl f3))] s.heap.size = A at hD ⊢
  have hA : ∀ q : Nat, s.heap.size ≤ q → A q := fun q h => by rw [← hAe]; exact Or.inr h
  have hP : va_P D vwCl [(a0, .inr (5, [.ref a1, .ref a2, .ref a3, w0_3, w0_4, w0_5, w0_6, w0_7, w0_8, w0_9, .int g0_10, w0_11, w0_12])), (a1, .inl (cI, 99, .inl f1)), (a2, .inl (cI, 99, .inl f2)), (a3, .inl (cI, 594, .inl f3))] s.heap := hP
  generalize hHe : s.heap = H at hP ⊢
  have hS : va_S A s.heap H [] := by rw [hHe]; exact va_S.rf
  have hl := lv_entry ([.ref a0]) (n := 1) (Nat.le_of_ble_eq_true rfl)
  rw [lg_entry_eq]
  generalize (lg_sl ([.ref a0]) ++ List.replicate (1 - (lg_sl ([.ref a0])).length) Slot.unset).toArray = ls at hl ⊢
  have hl : lv_has ls 1 [(0, .ref a0)] := hl
  unfold s_X5_rinse at hsp
  refine lv_aload_n hx hb dX5_rinse_0 rfl (lv_at hl 0 rfl) ?_
  obtain ⟨r1, hcr1, hsp⟩ := clE hsp
  refine call_v (w1 := [(a0, .inr (5, [.ref a1, .ref a2, .ref a3, w0_3, w0_4, w0_5, w0_6, w0_7, w0_8, w0_9, .int g0_10, w0_11, w0_12])), (a1, .inl (cI, 99, .inl f1)), (a2, .inl (cI, 99, .inl r1))]) (ws' := [(a0, .inr (5, [.ref a1, .ref a2, .ref a3, w0_3, w0_4, w0_5, w0_6, w0_7, w0_8, w0_9, .int g0_10, w0_11, w0_12])), (a1, .inl (cI, 99, .inl f1)), (a2, .inl (cI, 99, .inl r1)), (a3, .inl (cI, 594, .inl f3))]) (va_runV (As := []) (rest := []) ⟨hx, hb, hml, hown, hts⟩ (k_X5_hold l D cI cZ cC cS H.size a0 a1 a2 (.ref a3) (w0_3) (w0_4) (w0_5) (w0_6) (w0_7) (w0_8) (w0_9) (.int g0_10) (w0_11) (w0_12) f1 f2 r1 hcr1) (cwV 0 hts gX5_rinse_X5_hold rfl rfl rfl nd_X5_hold ⟨Nat.le_of_ble_eq_true rfl, Nat.le_of_ble_eq_true rfl⟩) (PB.preV (ci := 5) (q0 := 0) hKU hP hD [0, 1, 2] rfl rfl rfl rfl) rfl rfl hl.1 rfl (lv_room (Nat.le_of_ble_eq_true rfl)) dX5_rinse_1 ⟨Nat.zero_le _, Nat.zero_le _⟩) hS hP hD hA [0, 1, 2] rfl rfl (by first | (simp only [wset, List.set_cons_zero, List.set_cons_succ]; done) | rfl) rfl (fun H locs hP hD hS => ?_)
  refine lv_aload_n hx hb dX5_rinse_4 rfl (lv_at hl 0 rfl) ?_
  refine lv_aload_n hx hb dX5_rinse_5 rfl (lv_at hl 0 rfl) ?_
  obtain ⟨r2, hcr2, hsp⟩ := clE hsp
  refine call_i (w1 := [(a0, .inr (5, [.ref a1, .ref a2, .ref a3, w0_3, w0_4, w0_5, w0_6, w0_7, w0_8, w0_9, .int g0_10, w0_11, w0_12])), (a1, .inl (cI, 99, .inl r2.2))]) (ws' := [(a0, .inr (5, [.ref a1, .ref a2, .ref a3, w0_3, w0_4, w0_5, w0_6, w0_7, w0_8, w0_9, .int g0_10, w0_11, w0_12])), (a1, .inl (cI, 99, .inl r2.2)), (a2, .inl (cI, 99, .inl r1)), (a3, .inl (cI, 594, .inl f3))]) (va_runV (As := []) (rest := [.ref a0]) ⟨hx, hb, hml, hown, hts⟩ (k_X5_rinsesBrush l D cI cZ cC cS H.size a0 a1 (.ref a2) (.ref a3) (w0_3) (w0_4) (w0_5) (w0_6) (w0_7) (w0_8) (w0_9) (.int g0_10) (w0_11) (w0_12) f1 r2 hcr2) (cwV 0 hts gX5_rinse_X5_rinsesBrush rfl rfl rfl nd_X5_rinsesBrush ⟨Nat.le_of_ble_eq_true rfl, Nat.le_of_ble_eq_true rfl⟩) (PB.preV (ci := 5) (q0 := 0) hKU hP hD [0, 1] rfl rfl rfl rfl) rfl rfl hl.1 rfl (lv_room (Nat.le_of_ble_eq_true rfl)) dX5_rinse_6 ⟨Nat.zero_le _, Nat.zero_le _⟩) hS hP hD hA [0, 1] rfl rfl (by first | (simp only [wset, List.set_cons_zero, List.set_cons_succ]; done) | rfl) rfl (fun H locs hP hD hS => ?_)
  obtain ⟨r3, hcr3, hsp⟩ := clE hsp
  refine call_i (w1 := [(a0, .inr (5, [.ref a1, .ref a2, .ref a3, w0_3, w0_4, w0_5, w0_6, w0_7, w0_8, w0_9, .int r3.2.1, w0_11, w0_12])), (a2, .inl (cI, 99, .inl r1)), (a3, .inl (cI, 594, .inl r3.2.2))]) (ws' := [(a0, .inr (5, [.ref a1, .ref a2, .ref a3, w0_3, w0_4, w0_5, w0_6, w0_7, w0_8, w0_9, .int r3.2.1, w0_11, w0_12])), (a1, .inl (cI, 99, .inl r2.2)), (a2, .inl (cI, 99, .inl r1)), (a3, .inl (cI, 594, .inl r3.2.2))]) (va_runV (As := [.int r2.1]) (rest := []) ⟨hx, hb, hml, hown, hts⟩ (k_X5_recorded l D cI cZ cC cS H.size a0 a2 a3 (.ref a1) (w0_3) (w0_4) (w0_5) (w0_6) (w0_7) (w0_8) (w0_9) g0_10 (w0_11) (w0_12) r1 f3 r2.1 r3 hcr3) (cwV 1 hts gX5_rinse_X5_recorded rfl rfl rfl nd_X5_recorded ⟨Nat.le_of_ble_eq_true rfl, Nat.le_of_ble_eq_true rfl⟩) (PB.preV (ci := 5) (q0 := 0) hKU hP hD [0, 2, 3] rfl rfl rfl rfl) rfl rfl hl.1 rfl (lv_room (Nat.le_of_ble_eq_true rfl)) dX5_rinse_9 ⟨Nat.zero_le _, Nat.zero_le _⟩) hS hP hD hA [0, 2, 3] rfl rfl (by first | (simp only [wset, List.set_cons_zero, List.set_cons_succ]; done) | rfl) rfl (fun H locs hP hD hS => ?_)
  have hres := Option.some.inj hsp
  subst hres
  exact W.iret (v := r3.1) hx hb hr (fun t ht hW => ⟨⟨r3.1, (), rfl, rfl, P_at ht hP⟩, hS.F ht⟩) hS.2.2 dX5_rinse_12

theorem nd_X5_rinses : yX5_rinses.cls = RX5 ∧ yX5_rinses.cls ≠ "java/lang/invoke/MethodHandle" ∧ yX5_rinses.cls ≠ "java/lang/invoke/VarHandle" ∧ (parseMethodDescriptor yX5_rinses.desc).map (fun d => d.parameters.length) = some 1 := by decide +kernel
set_option maxHeartbeats 8000000 in
set_option maxRecDepth 100000 in
theorem k_X5_rinses (l : Launch) (D : va_G) (cI cZ cC cS : ClassId) (sz : Nat) (a0 a1 a7 : Nat) (w0_1 : Value) (w0_2 : Value) (w0_3 : Value) (w0_4 : Value) (w0_5 : Value) (w0_7 : Value) (w0_8 : Value) (w0_9 : Value) (w0_10 : Value) (w0_11 : Value) (w0_12 : Value) (f1 : Nat → Int32) (f7 : Nat → Int32) (u1 : Int32) (res : Int32 × (Nat → Int32)) (hsp : s_X5_rinses f1 f7 u1 = some res) : Met l yX5_rinses wsX5_rinses ({ frames := 5, cells := 0, slots := 0, locals := 112 }) (va_Pc [.ref a0, .int u1] (PB D cI cZ cC cS [(a0, .inr (5, [.ref a1, w0_1, w0_2, w0_3, w0_4, w0_5, .ref a7, w0_7, w0_8, w0_9, w0_10, w0_11, w0_12])), (a1, .inl (cI, 99, .inl f1)), (a7, .inl (cI, 3, .inl f7))] sz)) (va_Qi (fun r (_ : Unit) => r = res.1) (fun _ t => va_P D vwCl [(a0, .inr (5, [.ref a1, w0_1, w0_2, w0_3, w0_4, w0_5, .ref a7, w0_7, w0_8, w0_9, w0_10, w0_11, w0_12])), (a1, .inl (cI, 99, .inl f1)), (a7, .inl (cI, 3, .inl res.2))] t.heap) (va_A [(a0, .inr (5, [.ref a1, w0_1, w0_2, w0_3, w0_4, w0_5, .ref a7, w0_7, w0_8, w0_9, w0_10, w0_11, w0_12])), (a1, .inl (cI, 99, .inl f1)), (a7, .inl (cI, 3, .inl f7))] sz)) 0 0 (va_A [(a0, .inr (5, [.ref a1, w0_1, w0_2, w0_3, w0_4, w0_5, .ref a7, w0_7, w0_8, w0_9, w0_10, w0_11, w0_12])), (a1, .inl (cI, 99, .inl f1)), (a7, .inl (cI, 3, .inl f7))] sz) := by
  refine Met.ofW (cc := cX5_rinses) (maxL := 4) (ret := (some .int)) (by decide) rfl ?_
  intro p e s m args below meth c s₁ B hml hv
  obtain ⟨rfl, hsz, hP, hD0, hKU⟩ := hv
  have hx := B.exec
  have hb := B.bytes
  have hr := B.returns
  have hts := atoms_spec (ws := wsX5_rinses) B.pre
  have hown : s.vm.findClass RX5 = some m.cls := findClass_of_methodNamed B.named
  have hlocks := B.notSynchronized
  have hK := hKU.1
  subst hsz
  have hD := hD0.self (sz := s.heap.size)
  generalize hAe : va_A [(a0, .inr (5, [.ref a1, w0_1, w0_2, w0_3, w0_4, w0_5, .ref a7, w0_7, w0_8, w0_9, w0_10, w0_11, w0_12])), (a1, .inl (cI, 99, .inl f1)), (a7, .inl (cI, 3, .inl f7))] s.heap.size = A at hD ⊢
  have hA : ∀ q : Nat, s.heap.size ≤ q → A q := fun q h => by rw [← hAe]; exact Or.inr h
  have hP : va_P D vwCl [(a0, .inr (5, [.ref a1, w0_1, w0_2, w0_3, w0_4, w0_5, .ref a7, w0_7, w0_8, w0_9, w0_10, w0_11, w0_12])), (a1, .inl (cI, 99, .inl f1)), (a7, .inl (cI, 3, .inl f7))] s.heap := hP
  generalize hHe : s.heap = H at hP ⊢
  have hS : va_S A s.heap H [] := by rw [hHe]; exact va_S.rf
  have hl := lv_entry ([.ref a0, .int u1]) (n := 4) (Nat.le_of_ble_eq_true rfl)
  rw [lg_entry_eq]
  generalize (lg_sl ([.ref a0, .int u1]) ++ List.replicate (4 - (lg_sl ([.ref a0, .int u1])).length) Slot.unset).toArray = ls at hl ⊢
  have hl : lv_has ls 4 [(0, .ref a0), (1, .int u1)] := hl
  unfold s_X5_rinses at hsp
  refine lv_iload_n hx hb dX5_rinses_0 rfl (lv_at hl 1 rfl) ?_
  obtain ⟨r1, hcr1, hsp⟩ := clE hsp
  refine call_z (w1 := []) (ws' := [(a0, .inr (5, [.ref a1, w0_1, w0_2, w0_3, w0_4, w0_5, .ref a7, w0_7, w0_8, w0_9, w0_10, w0_11, w0_12])), (a1, .inl (cI, 99, .inl f1)), (a7, .inl (cI, 3, .inl f7))]) (va_runS (As := [.int u1]) (rest := []) ⟨hx, hb, hml, hown, hts⟩ (k_X5_isPanel l D cI cZ cC cS H.size u1 r1 hcr1) (va_cwS 1 hts gX5_rinses_X5_isPanel rfl rfl rfl nd_X5_isPanel.2 ⟨Nat.le_of_ble_eq_true rfl, Nat.le_of_ble_eq_true rfl⟩) (PB.preS hKU hP hD [] rfl rfl) rfl rfl hl.1 rfl (lv_room (Nat.le_of_ble_eq_true rfl)) dX5_rinses_1 ⟨Nat.zero_le _, Nat.zero_le _⟩) hS hP hD hA [] rfl rfl (by first | (simp only [wset, List.set_cons_zero, List.set_cons_succ]; done) | rfl) rfl (fun H locs hP hD hS hzr1 => ?_)
  refine lv_if_ne (tgt := 9) hx hb dX5_rinses_4 (by decide) (fun c2 => ?_) (fun c2 => ?_)
  · have hsp := itF hsp c2
    refine lv_aload_n hx hb dX5_rinses_9 rfl (lv_at hl 0 rfl) ?_
    obtain ⟨r3, hcr3, hsp⟩ := clE hsp
    refine call_i (w1 := [(a0, .inr (5, [.ref a1, w0_1, w0_2, w0_3, w0_4, w0_5, .ref a7, w0_7, w0_8, w0_9, w0_10, w0_11, w0_12])), (a1, .inl (cI, 99, .inl f1))]) (ws' := [(a0, .inr (5, [.ref a1, w0_1, w0_2, w0_3, w0_4, w0_5, .ref a7, w0_7, w0_8, w0_9, w0_10, w0_11, w0_12])), (a1, .inl (cI, 99, .inl f1)), (a7, .inl (cI, 3, .inl f7))]) (va_runV (As := []) (rest := []) ⟨hx, hb, hml, hown, hts⟩ (k_X5_inPots l D cI cZ cC cS H.size a0 a1 (w0_1) (w0_2) (w0_3) (w0_4) (w0_5) (.ref a7) (w0_7) (w0_8) (w0_9) (w0_10) (w0_11) (w0_12) f1 r3 hcr3) (cwV 0 hts gX5_rinses_X5_inPots rfl rfl rfl nd_X5_inPots ⟨Nat.le_of_ble_eq_true rfl, Nat.le_of_ble_eq_true rfl⟩) (PB.preV (ci := 5) (q0 := 0) hKU hP hD [0, 1] rfl rfl rfl rfl) rfl rfl hl.1 rfl (lv_room (Nat.le_of_ble_eq_true rfl)) dX5_rinses_10 ⟨Nat.zero_le _, Nat.zero_le _⟩) hS hP hD hA [0, 1] rfl rfl (by first | (simp only [wset, List.set_cons_zero, List.set_cons_succ]; done) | rfl) rfl (fun H locs hP hD hS => ?_)
    refine lv_if_ne (tgt := 19) hx hb dX5_rinses_13 (by decide) (fun c4 => ?_) (fun c4 => ?_)
    · have hsp := itF hsp c4
      refine lv_iconst (v := 0) hx hb dX5_rinses_19 (by decide) ?_
      refine lv_istore_n (lv' := [(2, .int 0), (0, .ref a0), (1, .int u1)]) hx hb dX5_rinses_20 rfl hl (by decide) rfl (fun ls hl => ?_)
      refine lv_iconst (v := 1) hx hb dX5_rinses_21 (by decide) ?_
      refine lv_istore_n (lv' := [(3, .int 1), (2, .int 0), (0, .ref a0), (1, .int u1)]) hx hb dX5_rinses_22 rfl hl (by decide) rfl (fun ls hl => ?_)
      refine ex_rule (D := D) (K := s_X5_rinses_X1) (P := fun (t1 : Int32 × (Nat → Int32)) => [(a0, .inr (5, [.ref a1, w0_1, w0_2, w0_3, w0_4, w0_5, .ref a7, w0_7, w0_8, w0_9, w0_10, w0_11, w0_12])), (a1, .inl (cI, 99, .inl f1)), (a7, .inl (cI, 3, .inl t1.2))]) (L := fun (t1 : Int32 × (Nat → Int32)) => [(2, .int t1.1)]) (nL := 4) (pcx := 68) (res := res) (A := A) (H0 := s.heap) ?_ (fun hx1 => ?_)
      · intro t1 H locs hsp hP hD hS ls hl
        obtain ⟨x8, y9⟩ := t1
        unfold s_X5_rinses_X1 at hsp; try dsimp only at hsp
        have hP : va_P D vwCl [(a0, .inr (5, [.ref a1, w0_1, w0_2, w0_3, w0_4, w0_5, .ref a7, w0_7, w0_8, w0_9, w0_10, w0_11, w0_12])), (a1, .inl (cI, 99, .inl f1)), (a7, .inl (cI, 3, .inl y9))] H := hP
        have hD : va_D A [(a0, .inr (5, [.ref a1, w0_1, w0_2, w0_3, w0_4, w0_5, .ref a7, w0_7, w0_8, w0_9, w0_10, w0_11, w0_12])), (a1, .inl (cI, 99, .inl f1)), (a7, .inl (cI, 3, .inl y9))] := hD
        have hl : lv_has ls 4 [(2, .int x8)] := hl
        refine lv_iload_n hx hb dX5_rinses_68 rfl (lv_at hl 0 rfl) ?_
        have hres := Option.some.inj hsp
        subst hres
        exact W.iret (v := x8) hx hb hr (fun t ht hW => ⟨⟨x8, (), rfl, rfl, P_at ht hP⟩, hS.F ht⟩) hS.2.2 dX5_rinses_69
      have hl := lv_sub hl (l' := [(0, .ref a0), (1, .int u1), (2, .int 0), (3, .int 1)]) [2, 3, 1, 0] rfl
      refine lp_rule (D := D) (F := s_X5_rinses_L1 u1 f1 (s_X5_rinses_X1)) (P := fun (tv : Int32 × Int32 × (Nat → Int32)) => [(a0, .inr (5, [.ref a1, w0_1, w0_2, w0_3, w0_4, w0_5, .ref a7, w0_7, w0_8, w0_9, w0_10, w0_11, w0_12])), (a1, .inl (cI, 99, .inl f1)), (a7, .inl (cI, 3, .inl tv.2.2))]) (L := fun (tv : Int32 × Int32 × (Nat → Int32)) => [(0, .ref a0), (1, .int u1), (2, .int tv.1), (3, .int tv.2.1)]) (nL := 4) (res := res) (A := A) (H0 := s.heap) (fun _ => rfl) ?_ 1000 (0, 1, f7) _ _ hsp hP hD hS _ hl
      · intro n1 ih1 tv H locs hsp hP hD hS ls hl
        obtain ⟨x5, x6, y7⟩ := tv
        have hsp : s_X5_rinses_B1  u1 f1 (s_X5_rinses_X1) (s_X5_rinses_L1 u1 f1 (s_X5_rinses_X1) n1) x5 x6 y7 = some res := hsp
        unfold s_X5_rinses_B1 at hsp
        have hP : va_P D vwCl [(a0, .inr (5, [.ref a1, w0_1, w0_2, w0_3, w0_4, w0_5, .ref a7, w0_7, w0_8, w0_9, w0_10, w0_11, w0_12])), (a1, .inl (cI, 99, .inl f1)), (a7, .inl (cI, 3, .inl y7))] H := hP
        have hD : va_D A [(a0, .inr (5, [.ref a1, w0_1, w0_2, w0_3, w0_4, w0_5, .ref a7, w0_7, w0_8, w0_9, w0_10, w0_11, w0_12])), (a1, .inl (cI, 99, .inl f1)), (a7, .inl (cI, 3, .inl y7))] := hD
        have hl : lv_has ls 4 [(0, .ref a0), (1, .int u1), (2, .int x5), (3, .int x6)] := hl
        refine lv_iload_n hx hb dX5_rinses_23 rfl (lv_at hl 3 rfl) ?_
        refine lv_bipush (v := 6) hx hb dX5_rinses_24 (by decide) ?_
        refine lv_icmp_ge (tgt := 68) hx hb dX5_rinses_26 (by decide) (fun c10 => ?_) (fun c10 => ?_)
        · have hsp := itT hsp c10
          exact hx1 (x5, y7) _ _ hsp hP hD hS _ (lv_sub hl [2] rfl)
        have hsp := itF hsp c10
        refine lv_iload_n hx hb dX5_rinses_29 rfl (lv_at hl 2 rfl) ?_
        refine lv_aload_n hx hb dX5_rinses_30 rfl (lv_at hl 0 rfl) ?_
        refine lv_iload_n hx hb dX5_rinses_31 rfl (lv_at hl 1 rfl) ?_
        refine lv_iload_n hx hb dX5_rinses_32 rfl (lv_at hl 3 rfl) ?_
        refine lv_iadd hx hb dX5_rinses_33 ?_
        refine lv_bipush (v := 6) hx hb dX5_rinses_34 (by decide) ?_
        obtain ⟨x11, ex11, hnx11, hsp⟩ := rmdE hsp
        refine lv_irem hx hb dX5_rinses_36 hnx11 ?_
        refine r_top ex11 ?_
        obtain ⟨r12, hcr12, hsp⟩ := clE hsp
        refine call_i (w1 := [(a0, .inr (5, [.ref a1, w0_1, w0_2, w0_3, w0_4, w0_5, .ref a7, w0_7, w0_8, w0_9, w0_10, w0_11, w0_12])), (a1, .inl (cI, 99, .inl f1)), (a7, .inl (cI, 3, .inl r12.2))]) (ws' := [(a0, .inr (5, [.ref a1, w0_1, w0_2, w0_3, w0_4, w0_5, .ref a7, w0_7, w0_8, w0_9, w0_10, w0_11, w0_12])), (a1, .inl (cI, 99, .inl f1)), (a7, .inl (cI, 3, .inl r12.2))]) (va_runV (As := [.int x11]) (rest := [.int x5]) ⟨hx, hb, hml, hown, hts⟩ (k_X5_nearestPot l D cI cZ cC cS H.size a0 a1 a7 (w0_1) (w0_2) (w0_3) (w0_4) (w0_5) (w0_7) (w0_8) (w0_9) (w0_10) (w0_11) (w0_12) f1 y7 x11 r12 hcr12) (cwV 1 hts gX5_rinses_X5_nearestPot rfl rfl rfl nd_X5_nearestPot ⟨Nat.le_of_ble_eq_true rfl, Nat.le_of_ble_eq_true rfl⟩) (PB.preV (ci := 5) (q0 := 0) hKU hP hD [0, 1, 2] rfl rfl rfl rfl) rfl rfl hl.1 rfl (lv_room (Nat.le_of_ble_eq_true rfl)) dX5_rinses_37 ⟨Nat.zero_le _, Nat.zero_le _⟩) hS hP hD hA [0, 1, 2] rfl rfl (by first | (simp only [wset, List.set_cons_zero, List.set_cons_succ]; done) | rfl) rfl (fun H locs hP hD hS => ?_)
        refine lv_aload_n hx hb dX5_rinses_40 rfl (lv_at hl 0 rfl) ?_
        refine lv_iload_n hx hb dX5_rinses_41 rfl (lv_at hl 1 rfl) ?_
        refine lv_iload_n hx hb dX5_rinses_42 rfl (lv_at hl 3 rfl) ?_
        refine lv_iadd hx hb dX5_rinses_43 ?_
        refine lv_iconst (v := 1) hx hb dX5_rinses_44 (by decide) ?_
        refine lv_isub hx hb dX5_rinses_45 ?_
        refine lv_bipush (v := 6) hx hb dX5_rinses_46 (by decide) ?_
        obtain ⟨x13, ex13, hnx13, hsp⟩ := rmdE hsp
        refine lv_irem hx hb dX5_rinses_48 hnx13 ?_
        refine r_top ex13 ?_
        obtain ⟨r14, hcr14, hsp⟩ := clE hsp
        refine call_i (w1 := [(a0, .inr (5, [.ref a1, w0_1, w0_2, w0_3, w0_4, w0_5, .ref a7, w0_7, w0_8, w0_9, w0_10, w0_11, w0_12])), (a1, .inl (cI, 99, .inl f1)), (a7, .inl (cI, 3, .inl r14.2))]) (ws' := [(a0, .inr (5, [.ref a1, w0_1, w0_2, w0_3, w0_4, w0_5, .ref a7, w0_7, w0_8, w0_9, w0_10, w0_11, w0_12])), (a1, .inl (cI, 99, .inl f1)), (a7, .inl (cI, 3, .inl r14.2))]) (va_runV (As := [.int x13]) (rest := [.int r12.1, .int x5]) ⟨hx, hb, hml, hown, hts⟩ (k_X5_nearestPot l D cI cZ cC cS H.size a0 a1 a7 (w0_1) (w0_2) (w0_3) (w0_4) (w0_5) (w0_7) (w0_8) (w0_9) (w0_10) (w0_11) (w0_12) f1 r12.2 x13 r14 hcr14) (cwV 1 hts gX5_rinses_X5_nearestPot rfl rfl rfl nd_X5_nearestPot ⟨Nat.le_of_ble_eq_true rfl, Nat.le_of_ble_eq_true rfl⟩) (PB.preV (ci := 5) (q0 := 0) hKU hP hD [0, 1, 2] rfl rfl rfl rfl) rfl rfl hl.1 rfl (lv_room (Nat.le_of_ble_eq_true rfl)) dX5_rinses_49 ⟨Nat.zero_le _, Nat.zero_le _⟩) hS hP hD hA [0, 1, 2] rfl rfl (by first | (simp only [wset, List.set_cons_zero, List.set_cons_succ]; done) | rfl) rfl (fun H locs hP hD hS => ?_)
        refine lv_icmp_ne (tgt := 59) hx hb dX5_rinses_52 (by decide) (fun c15 => ?_) (fun c15 => ?_)
        · have hsp := itF hsp c15
          refine lv_iconst (v := 1) hx hb dX5_rinses_59 (by decide) ?_
          refine lv_iadd hx hb dX5_rinses_60 ?_
          obtain ⟨x16, ex16, hsp⟩ := nmE hsp
          refine r_top ex16 ?_
          refine lv_istore_n (lv' := [(2, .int x16), (0, .ref a0), (1, .int u1), (3, .int x6)]) hx hb dX5_rinses_61 rfl hl (by decide) rfl (fun ls hl => ?_)
          obtain ⟨x17, ex17, hsp⟩ := nmE hsp
          refine lv_iinc (k := 3) (v := x17) (lv' := [(3, .int x17), (2, .int x16), (0, .ref a0), (1, .int u1)]) hx hb dX5_rinses_62 hl rfl (by rw [ex17]; rfl) (by decide) rfl (fun ls hl => ?_)
          refine lv_goto (tgt := 23) hx hb dX5_rinses_65 (by decide) ?_
          exact ih1 (x16, x17, r14.2) _ _ hsp hP hD hS _ (lv_sub hl [2, 3, 1, 0] rfl)
        have hsp := itT hsp c15
        refine lv_iconst (v := 0) hx hb dX5_rinses_55 (by decide) ?_
        refine lv_goto (tgt := 60) hx hb dX5_rinses_56 (by decide) ?_
        refine lv_iadd hx hb dX5_rinses_60 ?_
        obtain ⟨x18, ex18, hsp⟩ := nmE hsp
        refine r_top ex18 ?_
        refine lv_istore_n (lv' := [(2, .int x18), (0, .ref a0), (1, .int u1), (3, .int x6)]) hx hb dX5_rinses_61 rfl hl (by decide) rfl (fun ls hl => ?_)
        obtain ⟨x19, ex19, hsp⟩ := nmE hsp
        refine lv_iinc (k := 3) (v := x19) (lv' := [(3, .int x19), (2, .int x18), (0, .ref a0), (1, .int u1)]) hx hb dX5_rinses_62 hl rfl (by rw [ex19]; rfl) (by decide) rfl (fun ls hl => ?_)
        refine lv_goto (tgt := 23) hx hb dX5_rinses_65 (by decide) ?_
        exact ih1 (x18, x19, r14.2) _ _ hsp hP hD hS _ (lv_sub hl [2, 3, 1, 0] rfl)
    have hsp := itT hsp c4
    refine lv_bipush (v := (-6)) hx hb dX5_rinses_16 (by decide) ?_
    have hres := Option.some.inj hsp
    subst hres
    exact W.iret (v := (-6)) hx hb hr (fun t ht hW => ⟨⟨(-6), (), rfl, rfl, P_at ht hP⟩, hS.F ht⟩) hS.2.2 dX5_rinses_18
  have hsp := itT hsp c2
  refine lv_iconst (v := (-1)) hx hb dX5_rinses_7 (by decide) ?_
  have hres := Option.some.inj hsp
  subst hres
  exact W.iret (v := (-1)) hx hb hr (fun t ht hW => ⟨⟨(-1), (), rfl, rfl, P_at ht hP⟩, hS.F ht⟩) hS.2.2 dX5_rinses_8

theorem nd_X5_run : yX5_run.cls = RX5 ∧ yX5_run.cls ≠ "java/lang/invoke/MethodHandle" ∧ yX5_run.cls ≠ "java/lang/invoke/VarHandle" ∧ (parseMethodDescriptor yX5_run.desc).map (fun d => d.parameters.length) = some 0 := by decide +kernel
set_option maxHeartbeats 8000000 in
set_option maxRecDepth 100000 in
theorem k_X5_run (l : Launch) (D : va_G) (cI cZ cC cS : ClassId) (sz : Nat) (a0 a1 a2 a3 a6 a7 a8 a9 : Nat) (w0_3 : Value) (w0_4 : Value) (g0_9 : Int32) (g0_10 : Int32) (g0_11 : Int32) (g0_12 : Int32) (f1 : Nat → Int32) (f2 : Nat → Int32) (f3 : Nat → Int32) (f6 : Nat → Int32) (f7 : Nat → Int32) (f8 : Nat → Int32) (f9 : Nat → Int32) (res : Int32 × Int32 × Int32 × Int32 × Int32 × (Nat → Int32) × (Nat → Int32) × (Nat → Int32) × (Nat → Int32) × (Nat → Int32) × (Nat → Int32)) (hsp : s_X5_run g0_9 g0_10 f1 f2 f3 f6 f7 f8 f9 = some res) : Met l yX5_run wsX5_run ({ frames := 7, cells := 0, slots := 0, locals := 158 }) (va_Pc [.ref a0] (PB D cI cZ cC cS [(a0, .inr (5, [.ref a1, .ref a2, .ref a3, w0_3, w0_4, .ref a6, .ref a7, .ref a8, .ref a9, .int g0_9, .int g0_10, .int g0_11, .int g0_12])), (a1, .inl (cI, 99, .inl f1)), (a2, .inl (cI, 99, .inl f2)), (a3, .inl (cI, 594, .inl f3)), (a6, .inl (cI, 4, .inl f6)), (a7, .inl (cI, 3, .inl f7)), (a8, .inl (cI, 192, .inl f8)), (a9, .inl (cC, 60, .inl f9))] sz)) (va_Qi (fun r (_ : Unit) => r = res.1) (fun _ t => va_P D vwCl [(a0, .inr (5, [.ref a1, .ref a2, .ref a3, w0_3, w0_4, .ref a6, .ref a7, .ref a8, .ref a9, .int res.2.1, .int res.2.2.1, .int res.2.2.2.1, .int res.2.2.2.2.1])), (a1, .inl (cI, 99, .inl res.2.2.2.2.2.1)), (a2, .inl (cI, 99, .inl res.2.2.2.2.2.2.1)), (a3, .inl (cI, 594, .inl res.2.2.2.2.2.2.2.1)), (a6, .inl (cI, 4, .inl res.2.2.2.2.2.2.2.2.1)), (a7, .inl (cI, 3, .inl res.2.2.2.2.2.2.2.2.2.1)), (a8, .inl (cI, 192, .inl res.2.2.2.2.2.2.2.2.2.2)), (a9, .inl (cC, 60, .inl f9))] t.heap) (va_A [(a0, .inr (5, [.ref a1, .ref a2, .ref a3, w0_3, w0_4, .ref a6, .ref a7, .ref a8, .ref a9, .int g0_9, .int g0_10, .int g0_11, .int g0_12])), (a1, .inl (cI, 99, .inl f1)), (a2, .inl (cI, 99, .inl f2)), (a3, .inl (cI, 594, .inl f3)), (a6, .inl (cI, 4, .inl f6)), (a7, .inl (cI, 3, .inl f7)), (a8, .inl (cI, 192, .inl f8)), (a9, .inl (cC, 60, .inl f9))] sz)) 0 0 (va_A [(a0, .inr (5, [.ref a1, .ref a2, .ref a3, w0_3, w0_4, .ref a6, .ref a7, .ref a8, .ref a9, .int g0_9, .int g0_10, .int g0_11, .int g0_12])), (a1, .inl (cI, 99, .inl f1)), (a2, .inl (cI, 99, .inl f2)), (a3, .inl (cI, 594, .inl f3)), (a6, .inl (cI, 4, .inl f6)), (a7, .inl (cI, 3, .inl f7)), (a8, .inl (cI, 192, .inl f8)), (a9, .inl (cC, 60, .inl f9))] sz) := by
  refine Met.ofW (cc := cX5_run) (maxL := 3) (ret := (some .int)) (by decide) rfl ?_
  intro p e s m args below meth c s₁ B hml hv
  obtain ⟨rfl, hsz, hP, hD0, hKU⟩ := hv
  have hx := B.exec
  have hb := B.bytes
  have hr := B.returns
  have hts := atoms_spec (ws := wsX5_run) B.pre
  have hown : s.vm.findClass RX5 = some m.cls := findClass_of_methodNamed B.named
  have hlocks := B.notSynchronized
  have hK := hKU.1
  have hf_126 := hts (.fieldLink RX5 126 "ThinnedPotsModel" "length" "I") (by decide +kernel)
  have hi_X5 : ∀ w ∈ u_ws RX5 TX5 13, w ∈ wsX5_run := by decide +kernel
  have hf_133 := hts (.fieldLink RX5 133 "ThinnedPotsModel" "works" "I") (by decide +kernel)
  subst hsz
  have hD := hD0.self (sz := s.heap.size)
  generalize hAe : va_A [(a0, .inr (5, [.ref a1, .ref a2, .ref a3, w0_3, w0_4, .ref a6, .ref a7, .ref a8, .ref a9, .int g0_9, .int g0_10, .int g0_11, .int g0_12])), (a1, .inl (cI, 99, .inl f1)), (a2, .inl (cI, 99, .inl f2)), (a3, .inl (cI, 594, .inl f3)), (a6, .inl (cI, 4, .inl f6)), (a7, .inl (cI, 3, .inl f7)), (a8, .inl (cI, 192, .inl f8)), (a9, .inl (cC, 60, .inl f9))] s.heap.size = A at hD ⊢
  have hA : ∀ q : Nat, s.heap.size ≤ q → A q := fun q h => by rw [← hAe]; exact Or.inr h
  have hP : va_P D vwCl [(a0, .inr (5, [.ref a1, .ref a2, .ref a3, w0_3, w0_4, .ref a6, .ref a7, .ref a8, .ref a9, .int g0_9, .int g0_10, .int g0_11, .int g0_12])), (a1, .inl (cI, 99, .inl f1)), (a2, .inl (cI, 99, .inl f2)), (a3, .inl (cI, 594, .inl f3)), (a6, .inl (cI, 4, .inl f6)), (a7, .inl (cI, 3, .inl f7)), (a8, .inl (cI, 192, .inl f8)), (a9, .inl (cC, 60, .inl f9))] s.heap := hP
  generalize hHe : s.heap = H at hP ⊢
  have hS : va_S A s.heap H [] := by rw [hHe]; exact va_S.rf
  have hl := lv_entry ([.ref a0]) (n := 3) (Nat.le_of_ble_eq_true rfl)
  rw [lg_entry_eq]
  generalize (lg_sl ([.ref a0]) ++ List.replicate (3 - (lg_sl ([.ref a0])).length) Slot.unset).toArray = ls at hl ⊢
  have hl : lv_has ls 3 [(0, .ref a0)] := hl
  unfold s_X5_run at hsp
  refine lv_aload_n hx hb dX5_run_0 rfl (lv_at hl 0 rfl) ?_
  obtain ⟨r1, hcr1, hsp⟩ := clE hsp
  refine call_i (w1 := [(a0, .inr (5, [.ref a1, .ref a2, .ref a3, w0_3, w0_4, .ref a6, .ref a7, .ref a8, .ref a9, .int g0_9, .int g0_10, .int r1.2.1, .int r1.2.2.1])), (a8, .inl (cI, 192, .inl r1.2.2.2)), (a9, .inl (cC, 60, .inl f9))]) (ws' := [(a0, .inr (5, [.ref a1, .ref a2, .ref a3, w0_3, w0_4, .ref a6, .ref a7, .ref a8, .ref a9, .int g0_9, .int g0_10, .int r1.2.1, .int r1.2.2.1])), (a1, .inl (cI, 99, .inl f1)), (a2, .inl (cI, 99, .inl f2)), (a3, .inl (cI, 594, .inl f3)), (a6, .inl (cI, 4, .inl f6)), (a7, .inl (cI, 3, .inl f7)), (a8, .inl (cI, 192, .inl r1.2.2.2)), (a9, .inl (cC, 60, .inl f9))]) (va_runV (As := []) (rest := []) ⟨hx, hb, hml, hown, hts⟩ (k_X5_faultOf l D cI cZ cC cS H.size a0 a8 a9 (.ref a1) (.ref a2) (.ref a3) (w0_3) (w0_4) (.ref a6) (.ref a7) g0_9 (.int g0_10) g0_11 g0_12 f8 f9 r1 hcr1) (cwV 0 hts gX5_run_X5_faultOf rfl rfl rfl nd_X5_faultOf ⟨Nat.le_of_ble_eq_true rfl, Nat.le_of_ble_eq_true rfl⟩) (PB.preV (ci := 5) (q0 := 0) hKU hP hD [0, 6, 7] rfl rfl rfl rfl) rfl rfl hl.1 rfl (lv_room (Nat.le_of_ble_eq_true rfl)) dX5_run_1 ⟨Nat.zero_le _, Nat.zero_le _⟩) hS hP hD hA [0, 6, 7] rfl rfl (by first | (simp only [wset, List.set_cons_zero, List.set_cons_succ]; done) | rfl) rfl (fun H locs hP hD hS => ?_)
  refine lv_if_lt (tgt := 10) hx hb dX5_run_4 (by decide) (fun c2 => ?_) (fun c2 => ?_)
  · have hsp := itT hsp c2
    refine lv_aload_n hx hb dX5_run_10 rfl (lv_at hl 0 rfl) ?_
    obtain ⟨r3, hcr3, hsp⟩ := clE hsp
    refine call_v (w1 := [(a0, .inr (5, [.ref a1, .ref a2, .ref a3, w0_3, w0_4, .ref a6, .ref a7, .ref a8, .ref a9, .int g0_9, .int g0_10, .int r1.2.1, .int r1.2.2.1])), (a1, .inl (cI, 99, .inl f1)), (a2, .inl (cI, 99, .inl r3))]) (ws' := [(a0, .inr (5, [.ref a1, .ref a2, .ref a3, w0_3, w0_4, .ref a6, .ref a7, .ref a8, .ref a9, .int g0_9, .int g0_10, .int r1.2.1, .int r1.2.2.1])), (a1, .inl (cI, 99, .inl f1)), (a2, .inl (cI, 99, .inl r3)), (a3, .inl (cI, 594, .inl f3)), (a6, .inl (cI, 4, .inl f6)), (a7, .inl (cI, 3, .inl f7)), (a8, .inl (cI, 192, .inl r1.2.2.2)), (a9, .inl (cC, 60, .inl f9))]) (va_runV (As := []) (rest := []) ⟨hx, hb, hml, hown, hts⟩ (k_X5_hold l D cI cZ cC cS H.size a0 a1 a2 (.ref a3) (w0_3) (w0_4) (.ref a6) (.ref a7) (.ref a8) (.ref a9) (.int g0_9) (.int g0_10) (.int r1.2.1) (.int r1.2.2.1) f1 f2 r3 hcr3) (cwV 0 hts gX5_run_X5_hold rfl rfl rfl nd_X5_hold ⟨Nat.le_of_ble_eq_true rfl, Nat.le_of_ble_eq_true rfl⟩) (PB.preV (ci := 5) (q0 := 0) hKU hP hD [0, 1, 2] rfl rfl rfl rfl) rfl rfl hl.1 rfl (lv_room (Nat.le_of_ble_eq_true rfl)) dX5_run_11 ⟨Nat.zero_le _, Nat.zero_le _⟩) hS hP hD hA [0, 1, 2] rfl rfl (by first | (simp only [wset, List.set_cons_zero, List.set_cons_succ]; done) | rfl) rfl (fun H locs hP hD hS => ?_)
    refine lv_iconst (v := 0) hx hb dX5_run_14 (by decide) ?_
    refine lv_istore_n (lv' := [(1, .int 0), (0, .ref a0)]) hx hb dX5_run_15 rfl hl (by decide) rfl (fun ls hl => ?_)
    refine lv_iconst (v := 0) hx hb dX5_run_16 (by decide) ?_
    refine lv_istore_n (lv' := [(2, .int 0), (1, .int 0), (0, .ref a0)]) hx hb dX5_run_17 rfl hl (by decide) rfl (fun ls hl => ?_)
    refine ex_rule (D := D) (K := s_X5_run_X1 g0_10 r3 f3 r1) (P := fun (t1 : Int32 × (Nat → Int32) × (Nat → Int32) × (Nat → Int32)) => [(a0, .inr (5, [.ref a1, .ref a2, .ref a3, w0_3, w0_4, .ref a6, .ref a7, .ref a8, .ref a9, .int g0_9, .int g0_10, .int r1.2.1, .int r1.2.2.1])), (a1, .inl (cI, 99, .inl t1.2.1)), (a2, .inl (cI, 99, .inl r3)), (a3, .inl (cI, 594, .inl f3)), (a6, .inl (cI, 4, .inl t1.2.2.1)), (a7, .inl (cI, 3, .inl t1.2.2.2)), (a8, .inl (cI, 192, .inl r1.2.2.2)), (a9, .inl (cC, 60, .inl f9))]) (L := fun (t1 : Int32 × (Nat → Int32) × (Nat → Int32) × (Nat → Int32)) => [(0, .ref a0), (1, .int t1.1)]) (nL := 3) (pcx := 48) (res := res) (A := A) (H0 := s.heap) ?_ (fun hx1 => ?_)
    · intro t1 H locs hsp hP hD hS ls hl
      obtain ⟨x9, y10, y11, y12⟩ := t1
      unfold s_X5_run_X1 at hsp; try dsimp only at hsp
      have hP : va_P D vwCl [(a0, .inr (5, [.ref a1, .ref a2, .ref a3, w0_3, w0_4, .ref a6, .ref a7, .ref a8, .ref a9, .int g0_9, .int g0_10, .int r1.2.1, .int r1.2.2.1])), (a1, .inl (cI, 99, .inl y10)), (a2, .inl (cI, 99, .inl r3)), (a3, .inl (cI, 594, .inl f3)), (a6, .inl (cI, 4, .inl y11)), (a7, .inl (cI, 3, .inl y12)), (a8, .inl (cI, 192, .inl r1.2.2.2)), (a9, .inl (cC, 60, .inl f9))] H := hP
      have hD : va_D A [(a0, .inr (5, [.ref a1, .ref a2, .ref a3, w0_3, w0_4, .ref a6, .ref a7, .ref a8, .ref a9, .int g0_9, .int g0_10, .int r1.2.1, .int r1.2.2.1])), (a1, .inl (cI, 99, .inl y10)), (a2, .inl (cI, 99, .inl r3)), (a3, .inl (cI, 594, .inl f3)), (a6, .inl (cI, 4, .inl y11)), (a7, .inl (cI, 3, .inl y12)), (a8, .inl (cI, 192, .inl r1.2.2.2)), (a9, .inl (cC, 60, .inl f9))] := hD
      have hl : lv_has ls 3 [(0, .ref a0), (1, .int x9)] := hl
      refine lv_aload_n hx hb dX5_run_48 rfl (lv_at hl 0 rfl) ?_
      refine lv_iconst (v := 0) hx hb dX5_run_49 (by decide) ?_
      refine va_put (D := D) (ci := 5) (v := .int 0) (ty := .int) (C := RX5) (T := TX5) (N := 13) hx hb hts hi_X5 tyX5 tyX5_ok nmX5 hown hK hP hD hS 0 rfl rfl 9 (by decide) hf_126 (fun _ h9 => h9) rfl (by decide +kernel) rfl rfl (Nat.le_of_ble_eq_true rfl) dX5_run_50 (fun H locs hP hD hS => ?_)
      have hP : va_P D vwCl [(a0, .inr (5, [.ref a1, .ref a2, .ref a3, w0_3, w0_4, .ref a6, .ref a7, .ref a8, .ref a9, .int 0, .int g0_10, .int r1.2.1, .int r1.2.2.1])), (a1, .inl (cI, 99, .inl y10)), (a2, .inl (cI, 99, .inl r3)), (a3, .inl (cI, 594, .inl f3)), (a6, .inl (cI, 4, .inl y11)), (a7, .inl (cI, 3, .inl y12)), (a8, .inl (cI, 192, .inl r1.2.2.2)), (a9, .inl (cC, 60, .inl f9))] H := hP
      have hD : va_D A [(a0, .inr (5, [.ref a1, .ref a2, .ref a3, w0_3, w0_4, .ref a6, .ref a7, .ref a8, .ref a9, .int 0, .int g0_10, .int r1.2.1, .int r1.2.2.1])), (a1, .inl (cI, 99, .inl y10)), (a2, .inl (cI, 99, .inl r3)), (a3, .inl (cI, 594, .inl f3)), (a6, .inl (cI, 4, .inl y11)), (a7, .inl (cI, 3, .inl y12)), (a8, .inl (cI, 192, .inl r1.2.2.2)), (a9, .inl (cC, 60, .inl f9))] := hD
      refine lv_aload_n hx hb dX5_run_53 rfl (lv_at hl 0 rfl) ?_
      refine lv_iload_n hx hb dX5_run_54 rfl (lv_at hl 1 rfl) ?_
      obtain ⟨r13, hcr13, hsp⟩ := clE hsp
      refine call_i (w1 := [(a0, .inr (5, [.ref a1, .ref a2, .ref a3, w0_3, w0_4, .ref a6, .ref a7, .ref a8, .ref a9, .int 0, .int r13.2.1, .int r1.2.1, .int r1.2.2.1])), (a2, .inl (cI, 99, .inl r3)), (a3, .inl (cI, 594, .inl r13.2.2))]) (ws' := [(a0, .inr (5, [.ref a1, .ref a2, .ref a3, w0_3, w0_4, .ref a6, .ref a7, .ref a8, .ref a9, .int 0, .int r13.2.1, .int r1.2.1, .int r1.2.2.1])), (a1, .inl (cI, 99, .inl y10)), (a2, .inl (cI, 99, .inl r3)), (a3, .inl (cI, 594, .inl r13.2.2)), (a6, .inl (cI, 4, .inl y11)), (a7, .inl (cI, 3, .inl y12)), (a8, .inl (cI, 192, .inl r1.2.2.2)), (a9, .inl (cC, 60, .inl f9))]) (va_runV (As := [.int x9]) (rest := []) ⟨hx, hb, hml, hown, hts⟩ (k_X5_recorded l D cI cZ cC cS H.size a0 a2 a3 (.ref a1) (w0_3) (w0_4) (.ref a6) (.ref a7) (.ref a8) (.ref a9) (.int 0) g0_10 (.int r1.2.1) (.int r1.2.2.1) r3 f3 x9 r13 hcr13) (cwV 1 hts gX5_run_X5_recorded rfl rfl rfl nd_X5_recorded ⟨Nat.le_of_ble_eq_true rfl, Nat.le_of_ble_eq_true rfl⟩) (PB.preV (ci := 5) (q0 := 0) hKU hP hD [0, 2, 3] rfl rfl rfl rfl) rfl rfl hl.1 rfl (lv_room (Nat.le_of_ble_eq_true rfl)) dX5_run_55 ⟨Nat.zero_le _, Nat.zero_le _⟩) hS hP hD hA [0, 2, 3] rfl rfl (by first | (simp only [wset, List.set_cons_zero, List.set_cons_succ]; done) | rfl) rfl (fun H locs hP hD hS => ?_)
      have hres := Option.some.inj hsp
      subst hres
      exact W.iret (v := r13.1) hx hb hr (fun t ht hW => ⟨⟨r13.1, (), rfl, rfl, P_at ht hP⟩, hS.F ht⟩) hS.2.2 dX5_run_58
    have hl := lv_sub hl (l' := [(0, .ref a0), (1, .int 0), (2, .int 0)]) [2, 1, 0] rfl
    refine lp_rule (D := D) (F := s_X5_run_L1 r1 (s_X5_run_X1 g0_10 r3 f3 r1)) (P := fun (tv : Int32 × Int32 × (Nat → Int32) × (Nat → Int32) × (Nat → Int32)) => [(a0, .inr (5, [.ref a1, .ref a2, .ref a3, w0_3, w0_4, .ref a6, .ref a7, .ref a8, .ref a9, .int g0_9, .int g0_10, .int r1.2.1, .int r1.2.2.1])), (a1, .inl (cI, 99, .inl tv.2.2.1)), (a2, .inl (cI, 99, .inl r3)), (a3, .inl (cI, 594, .inl f3)), (a6, .inl (cI, 4, .inl tv.2.2.2.1)), (a7, .inl (cI, 3, .inl tv.2.2.2.2)), (a8, .inl (cI, 192, .inl r1.2.2.2)), (a9, .inl (cC, 60, .inl f9))]) (L := fun (tv : Int32 × Int32 × (Nat → Int32) × (Nat → Int32) × (Nat → Int32)) => [(0, .ref a0), (1, .int tv.1), (2, .int tv.2.1)]) (nL := 3) (res := res) (A := A) (H0 := s.heap) (fun _ => rfl) ?_ 1000 (0, 0, f1, f6, f7) _ _ hsp hP hD hS _ hl
    · intro n1 ih1 tv H locs hsp hP hD hS ls hl
      obtain ⟨x4, x5, y6, y7, y8⟩ := tv
      have hsp : s_X5_run_B1  r1 (s_X5_run_X1 g0_10 r3 f3 r1) (s_X5_run_L1 r1 (s_X5_run_X1 g0_10 r3 f3 r1) n1) x4 x5 y6 y7 y8 = some res := hsp
      unfold s_X5_run_B1 at hsp
      have hP : va_P D vwCl [(a0, .inr (5, [.ref a1, .ref a2, .ref a3, w0_3, w0_4, .ref a6, .ref a7, .ref a8, .ref a9, .int g0_9, .int g0_10, .int r1.2.1, .int r1.2.2.1])), (a1, .inl (cI, 99, .inl y6)), (a2, .inl (cI, 99, .inl r3)), (a3, .inl (cI, 594, .inl f3)), (a6, .inl (cI, 4, .inl y7)), (a7, .inl (cI, 3, .inl y8)), (a8, .inl (cI, 192, .inl r1.2.2.2)), (a9, .inl (cC, 60, .inl f9))] H := hP
      have hD : va_D A [(a0, .inr (5, [.ref a1, .ref a2, .ref a3, w0_3, w0_4, .ref a6, .ref a7, .ref a8, .ref a9, .int g0_9, .int g0_10, .int r1.2.1, .int r1.2.2.1])), (a1, .inl (cI, 99, .inl y6)), (a2, .inl (cI, 99, .inl r3)), (a3, .inl (cI, 594, .inl f3)), (a6, .inl (cI, 4, .inl y7)), (a7, .inl (cI, 3, .inl y8)), (a8, .inl (cI, 192, .inl r1.2.2.2)), (a9, .inl (cC, 60, .inl f9))] := hD
      have hl : lv_has ls 3 [(0, .ref a0), (1, .int x4), (2, .int x5)] := hl
      refine lv_iload_n hx hb dX5_run_18 rfl (lv_at hl 2 rfl) ?_
      refine lv_aload_n hx hb dX5_run_19 rfl (lv_at hl 0 rfl) ?_
      refine va_get (D := D) (ci := 5) (v := .int r1.2.1) (C := RX5) (T := TX5) (N := 13) hx hb hts hi_X5 hown hK hP 0 rfl rfl 11 (by decide) hf_133 (fun _ h9 => h9) rfl dX5_run_20 ?_
      refine lv_icmp_ge (tgt := 48) hx hb dX5_run_23 (by decide) (fun c14 => ?_) (fun c14 => ?_)
      · have hsp := itT hsp c14
        exact hx1 (x4, y6, y7, y8) _ _ hsp hP hD hS _ (lv_sub hl [0, 1] rfl)
      have hsp := itF hsp c14
      refine lv_iload_n hx hb dX5_run_26 rfl (lv_at hl 1 rfl) ?_
      refine lv_aload_n hx hb dX5_run_27 rfl (lv_at hl 0 rfl) ?_
      refine lv_iload_n hx hb dX5_run_28 rfl (lv_at hl 2 rfl) ?_
      obtain ⟨r15, hcr15, hsp⟩ := clE hsp
      refine call_z (w1 := [(a0, .inr (5, [.ref a1, .ref a2, .ref a3, w0_3, w0_4, .ref a6, .ref a7, .ref a8, .ref a9, .int g0_9, .int g0_10, .int r1.2.1, .int r1.2.2.1])), (a1, .inl (cI, 99, .inl r15.2.1)), (a6, .inl (cI, 4, .inl r15.2.2.1)), (a7, .inl (cI, 3, .inl r15.2.2.2)), (a8, .inl (cI, 192, .inl r1.2.2.2))]) (ws' := [(a0, .inr (5, [.ref a1, .ref a2, .ref a3, w0_3, w0_4, .ref a6, .ref a7, .ref a8, .ref a9, .int g0_9, .int g0_10, .int r1.2.1, .int r1.2.2.1])), (a1, .inl (cI, 99, .inl r15.2.1)), (a2, .inl (cI, 99, .inl r3)), (a3, .inl (cI, 594, .inl f3)), (a6, .inl (cI, 4, .inl r15.2.2.1)), (a7, .inl (cI, 3, .inl r15.2.2.2)), (a8, .inl (cI, 192, .inl r1.2.2.2)), (a9, .inl (cC, 60, .inl f9))]) (va_runV (As := [.int x5]) (rest := [.int x4]) ⟨hx, hb, hml, hown, hts⟩ (k_X5_does l D cI cZ cC cS H.size a0 a1 a6 a7 a8 (.ref a2) (.ref a3) (w0_3) (w0_4) (.ref a9) (.int g0_9) (.int g0_10) (.int r1.2.1) (.int r1.2.2.1) y6 y7 y8 r1.2.2.2 x5 r15 hcr15) (cwV 1 hts gX5_run_X5_does rfl rfl rfl nd_X5_does ⟨Nat.le_of_ble_eq_true rfl, Nat.le_of_ble_eq_true rfl⟩) (PB.preV (ci := 5) (q0 := 0) hKU hP hD [0, 1, 4, 5, 6] rfl rfl rfl rfl) rfl rfl hl.1 rfl (lv_room (Nat.le_of_ble_eq_true rfl)) dX5_run_29 ⟨Nat.zero_le _, Nat.zero_le _⟩) hS hP hD hA [0, 1, 4, 5, 6] rfl rfl (by first | (simp only [wset, List.set_cons_zero, List.set_cons_succ]; done) | rfl) rfl (fun H locs hP hD hS hzr15 => ?_)
      refine lv_if_eq (tgt := 39) hx hb dX5_run_32 (by decide) (fun c16 => ?_) (fun c16 => ?_)
      · have hsp := itT hsp c16
        refine lv_iconst (v := 0) hx hb dX5_run_39 (by decide) ?_
        refine lv_iadd hx hb dX5_run_40 ?_
        obtain ⟨x17, ex17, hsp⟩ := nmE hsp
        refine r_top ex17 ?_
        refine lv_istore_n (lv' := [(1, .int x17), (0, .ref a0), (2, .int x5)]) hx hb dX5_run_41 rfl hl (by decide) rfl (fun ls hl => ?_)
        obtain ⟨x18, ex18, hsp⟩ := nmE hsp
        refine lv_iinc (k := 2) (v := x18) (lv' := [(2, .int x18), (1, .int x17), (0, .ref a0)]) hx hb dX5_run_42 hl rfl (by rw [ex18]; rfl) (by decide) rfl (fun ls hl => ?_)
        refine lv_goto (tgt := 18) hx hb dX5_run_45 (by decide) ?_
        exact ih1 (x17, x18, r15.2.1, r15.2.2.1, r15.2.2.2) _ _ hsp hP hD hS _ (lv_sub hl [2, 1, 0] rfl)
      have hsp := itF hsp c16
      refine lv_iconst (v := 1) hx hb dX5_run_35 (by decide) ?_
      refine lv_goto (tgt := 40) hx hb dX5_run_36 (by decide) ?_
      refine lv_iadd hx hb dX5_run_40 ?_
      obtain ⟨x19, ex19, hsp⟩ := nmE hsp
      refine r_top ex19 ?_
      refine lv_istore_n (lv' := [(1, .int x19), (0, .ref a0), (2, .int x5)]) hx hb dX5_run_41 rfl hl (by decide) rfl (fun ls hl => ?_)
      obtain ⟨x20, ex20, hsp⟩ := nmE hsp
      refine lv_iinc (k := 2) (v := x20) (lv' := [(2, .int x20), (1, .int x19), (0, .ref a0)]) hx hb dX5_run_42 hl rfl (by rw [ex20]; rfl) (by decide) rfl (fun ls hl => ?_)
      refine lv_goto (tgt := 18) hx hb dX5_run_45 (by decide) ?_
      exact ih1 (x19, x20, r15.2.1, r15.2.2.1, r15.2.2.2) _ _ hsp hP hD hS _ (lv_sub hl [2, 1, 0] rfl)
  have hsp := itF hsp c2
  refine lv_bipush (v := (-3)) hx hb dX5_run_7 (by decide) ?_
  have hres := Option.some.inj hsp
  subst hres
  exact W.iret (v := (-3)) hx hb hr (fun t ht hW => ⟨⟨(-3), (), rfl, rfl, P_at ht hP⟩, hS.F ht⟩) hS.2.2 dX5_run_9

theorem nd_X5_save : yX5_save.cls = RX5 ∧ yX5_save.cls ≠ "java/lang/invoke/MethodHandle" ∧ yX5_save.cls ≠ "java/lang/invoke/VarHandle" ∧ (parseMethodDescriptor yX5_save.desc).map (fun d => d.parameters.length) = some 1 := by decide +kernel
set_option maxHeartbeats 8000000 in
set_option maxRecDepth 100000 in
theorem k_X5_save (l : Launch) (D : va_G) (cI cZ cC cS : ClassId) (sz : Nat) (a0 a1 a4 a5 : Nat) (w0_1 : Value) (w0_2 : Value) (w0_5 : Value) (w0_6 : Value) (w0_7 : Value) (w0_8 : Value) (w0_9 : Value) (w0_10 : Value) (w0_11 : Value) (w0_12 : Value) (f1 : Nat → Int32) (f4 : Nat → Int32) (f5 : Nat → Int32) (u1 : Int32) (res : Int32 × (Nat → Int32) × (Nat → Int32)) (hsp : s_X5_save f1 f4 f5 u1 = some res) : Met l yX5_save wsX5_save ({ frames := 2, cells := 0, slots := 0, locals := 43 }) (va_Pc [.ref a0, .int u1] (PB D cI cZ cC cS [(a0, .inr (5, [.ref a1, w0_1, w0_2, .ref a4, .ref a5, w0_5, w0_6, w0_7, w0_8, w0_9, w0_10, w0_11, w0_12])), (a1, .inl (cI, 99, .inl f1)), (a4, .inl (cI, 198, .inl f4)), (a5, .inl (cZ, 2, .inl f5))] sz)) (va_Qi (fun r (_ : Unit) => r = res.1) (fun _ t => va_P D vwCl [(a0, .inr (5, [.ref a1, w0_1, w0_2, .ref a4, .ref a5, w0_5, w0_6, w0_7, w0_8, w0_9, w0_10, w0_11, w0_12])), (a1, .inl (cI, 99, .inl f1)), (a4, .inl (cI, 198, .inl res.2.1)), (a5, .inl (cZ, 2, .inl res.2.2))] t.heap) (va_A [(a0, .inr (5, [.ref a1, w0_1, w0_2, .ref a4, .ref a5, w0_5, w0_6, w0_7, w0_8, w0_9, w0_10, w0_11, w0_12])), (a1, .inl (cI, 99, .inl f1)), (a4, .inl (cI, 198, .inl f4)), (a5, .inl (cZ, 2, .inl f5))] sz)) 0 0 (va_A [(a0, .inr (5, [.ref a1, w0_1, w0_2, .ref a4, .ref a5, w0_5, w0_6, w0_7, w0_8, w0_9, w0_10, w0_11, w0_12])), (a1, .inl (cI, 99, .inl f1)), (a4, .inl (cI, 198, .inl f4)), (a5, .inl (cZ, 2, .inl f5))] sz) := by
  refine Met.ofW (cc := cX5_save) (maxL := 3) (ret := (some .int)) (by decide) rfl ?_
  intro p e s m args below meth c s₁ B hml hv
  obtain ⟨rfl, hsz, hP, hD0, hKU⟩ := hv
  have hx := B.exec
  have hb := B.bytes
  have hr := B.returns
  have hts := atoms_spec (ws := wsX5_save) B.pre
  have hown : s.vm.findClass RX5 = some m.cls := findClass_of_methodNamed B.named
  have hlocks := B.notSynchronized
  have hK := hKU.1
  have hf_22 := hts (.fieldLink RX5 22 "ThinnedPotsModel" "isSaved" "[Z") (by decide +kernel)
  have hi_X5 : ∀ w ∈ u_ws RX5 TX5 13, w ∈ wsX5_save := by decide +kernel
  have hf_19 := hts (.fieldLink RX5 19 "ThinnedPotsModel" "saved" "[I") (by decide +kernel)
  have hf_7 := hts (.fieldLink RX5 7 "ThinnedPotsModel" "s" "[I") (by decide +kernel)
  subst hsz
  have hD := hD0.self (sz := s.heap.size)
  generalize hAe : va_A [(a0, .inr (5, [.ref a1, w0_1, w0_2, .ref a4, .ref a5, w0_5, w0_6, w0_7, w0_8, w0_9, w0_10, w0_11, w0_12])), (a1, .inl (cI, 99, .inl f1)), (a4, .inl (cI, 198, .inl f4)), (a5, .inl (cZ, 2, .inl f5))] s.heap.size = A at hD ⊢
  have hA : ∀ q : Nat, s.heap.size ≤ q → A q := fun q h => by rw [← hAe]; exact Or.inr h
  have hP : va_P D vwCl [(a0, .inr (5, [.ref a1, w0_1, w0_2, .ref a4, .ref a5, w0_5, w0_6, w0_7, w0_8, w0_9, w0_10, w0_11, w0_12])), (a1, .inl (cI, 99, .inl f1)), (a4, .inl (cI, 198, .inl f4)), (a5, .inl (cZ, 2, .inl f5))] s.heap := hP
  generalize hHe : s.heap = H at hP ⊢
  have hS : va_S A s.heap H [] := by rw [hHe]; exact va_S.rf
  have hl := lv_entry ([.ref a0, .int u1]) (n := 3) (Nat.le_of_ble_eq_true rfl)
  rw [lg_entry_eq]
  generalize (lg_sl ([.ref a0, .int u1]) ++ List.replicate (3 - (lg_sl ([.ref a0, .int u1])).length) Slot.unset).toArray = ls at hl ⊢
  have hl : lv_has ls 3 [(0, .ref a0), (1, .int u1)] := hl
  unfold s_X5_save at hsp
  refine lv_iload_n hx hb dX5_save_0 rfl (lv_at hl 1 rfl) ?_
  refine lv_iconst (v := 0) hx hb dX5_save_1 (by decide) ?_
  refine lv_iconst (v := 1) hx hb dX5_save_2 (by decide) ?_
  obtain ⟨r1, hcr1, hsp⟩ := clE hsp
  refine call_z (w1 := []) (ws' := [(a0, .inr (5, [.ref a1, w0_1, w0_2, .ref a4, .ref a5, w0_5, w0_6, w0_7, w0_8, w0_9, w0_10, w0_11, w0_12])), (a1, .inl (cI, 99, .inl f1)), (a4, .inl (cI, 198, .inl f4)), (a5, .inl (cZ, 2, .inl f5))]) (va_runS (As := [.int u1, .int 0, .int 1]) (rest := []) ⟨hx, hb, hml, hown, hts⟩ (k_X5_in l D cI cZ cC cS H.size u1 0 1 r1 hcr1) (va_cwS 3 hts gX5_save_X5_in rfl rfl rfl nd_X5_in.2 ⟨Nat.le_of_ble_eq_true rfl, Nat.le_of_ble_eq_true rfl⟩) (PB.preS hKU hP hD [] rfl rfl) rfl rfl hl.1 rfl (lv_room (Nat.le_of_ble_eq_true rfl)) dX5_save_3 ⟨Nat.zero_le _, Nat.zero_le _⟩) hS hP hD hA [] rfl rfl (by first | (simp only [wset, List.set_cons_zero, List.set_cons_succ]; done) | rfl) rfl (fun H locs hP hD hS hzr1 => ?_)
  refine lv_if_ne (tgt := 12) hx hb dX5_save_6 (by decide) (fun c2 => ?_) (fun c2 => ?_)
  · have hsp := itF hsp c2
    refine lv_iconst (v := 0) hx hb dX5_save_12 (by decide) ?_
    refine lv_istore_n (lv' := [(2, .int 0), (0, .ref a0), (1, .int u1)]) hx hb dX5_save_13 rfl hl (by decide) rfl (fun ls hl => ?_)
    refine ex_rule (D := D) (K := s_X5_save_X1 f5 u1 f1) (P := fun (t1 : (Nat → Int32)) => [(a0, .inr (5, [.ref a1, w0_1, w0_2, .ref a4, .ref a5, w0_5, w0_6, w0_7, w0_8, w0_9, w0_10, w0_11, w0_12])), (a1, .inl (cI, 99, .inl f1)), (a4, .inl (cI, 198, .inl t1)), (a5, .inl (cZ, 2, .inl f5))]) (L := fun (t1 : (Nat → Int32)) => [(0, .ref a0), (1, .int u1)]) (nL := 3) (pcx := 43) (res := res) (A := A) (H0 := s.heap) ?_ (fun hx1 => ?_)
    · intro t1 H locs hsp hP hD hS ls hl
      obtain ⟨y5, rfl⟩ : ∃ z, z = t1 := ⟨_, rfl⟩
      unfold s_X5_save_X1 at hsp; try dsimp only at hsp
      have hP : va_P D vwCl [(a0, .inr (5, [.ref a1, w0_1, w0_2, .ref a4, .ref a5, w0_5, w0_6, w0_7, w0_8, w0_9, w0_10, w0_11, w0_12])), (a1, .inl (cI, 99, .inl f1)), (a4, .inl (cI, 198, .inl y5)), (a5, .inl (cZ, 2, .inl f5))] H := hP
      have hD : va_D A [(a0, .inr (5, [.ref a1, w0_1, w0_2, .ref a4, .ref a5, w0_5, w0_6, w0_7, w0_8, w0_9, w0_10, w0_11, w0_12])), (a1, .inl (cI, 99, .inl f1)), (a4, .inl (cI, 198, .inl y5)), (a5, .inl (cZ, 2, .inl f5))] := hD
      have hl : lv_has ls 3 [(0, .ref a0), (1, .int u1)] := hl
      refine lv_aload_n hx hb dX5_save_43 rfl (lv_at hl 0 rfl) ?_
      refine va_get (D := D) (ci := 5) (v := .ref a5) (C := RX5) (T := TX5) (N := 13) hx hb hts hi_X5 hown hK hP 0 rfl rfl 4 (by decide) hf_22 (fun _ h9 => h9) rfl dX5_save_44 ?_
      refine lv_iload_n hx hb dX5_save_47 rfl (lv_at hl 1 rfl) ?_
      refine lv_iconst (v := 1) hx hb dX5_save_48 (by decide) ?_
      obtain ⟨y6, ey6, hny6, hsp⟩ := stoE hsp
      refine r_zast (ws' := [(a0, .inr (5, [.ref a1, w0_1, w0_2, .ref a4, .ref a5, w0_5, w0_6, w0_7, w0_8, w0_9, w0_10, w0_11, w0_12])), (a1, .inl (cI, 99, .inl f1)), (a4, .inl (cI, 198, .inl y5)), (a5, .inl (cZ, 2, .inl y6))]) hx hb hK hP hD hS 3 1 rfl rfl ey6 hny6 rfl dX5_save_49 (fun H locs hP hD hS => ?_)
      refine lv_aload_n hx hb dX5_save_50 rfl (lv_at hl 0 rfl) ?_
      obtain ⟨r7, hcr7, hsp⟩ := clE hsp
      refine call_i (w1 := [(a0, .inr (5, [.ref a1, w0_1, w0_2, .ref a4, .ref a5, w0_5, w0_6, w0_7, w0_8, w0_9, w0_10, w0_11, w0_12])), (a1, .inl (cI, 99, .inl f1))]) (ws' := [(a0, .inr (5, [.ref a1, w0_1, w0_2, .ref a4, .ref a5, w0_5, w0_6, w0_7, w0_8, w0_9, w0_10, w0_11, w0_12])), (a1, .inl (cI, 99, .inl f1)), (a4, .inl (cI, 198, .inl y5)), (a5, .inl (cZ, 2, .inl y6))]) (va_runV (As := []) (rest := []) ⟨hx, hb, hml, hown, hts⟩ (k_X5_inPots l D cI cZ cC cS H.size a0 a1 (w0_1) (w0_2) (.ref a4) (.ref a5) (w0_5) (w0_6) (w0_7) (w0_8) (w0_9) (w0_10) (w0_11) (w0_12) f1 r7 hcr7) (cwV 0 hts gX5_save_X5_inPots rfl rfl rfl nd_X5_inPots ⟨Nat.le_of_ble_eq_true rfl, Nat.le_of_ble_eq_true rfl⟩) (PB.preV (ci := 5) (q0 := 0) hKU hP hD [0, 1] rfl rfl rfl rfl) rfl rfl hl.1 rfl (lv_room (Nat.le_of_ble_eq_true rfl)) dX5_save_51 ⟨Nat.zero_le _, Nat.zero_le _⟩) hS hP hD hA [0, 1] rfl rfl (by first | (simp only [wset, List.set_cons_zero, List.set_cons_succ]; done) | rfl) rfl (fun H locs hP hD hS => ?_)
      have hres := Option.some.inj hsp
      subst hres
      exact W.iret (v := r7) hx hb hr (fun t ht hW => ⟨⟨r7, (), rfl, rfl, P_at ht hP⟩, hS.F ht⟩) hS.2.2 dX5_save_54
    have hl := lv_sub hl (l' := [(0, .ref a0), (1, .int u1), (2, .int 0)]) [1, 2, 0] rfl
    refine lp_rule (D := D) (F := s_X5_save_L1 f1 u1 (s_X5_save_X1 f5 u1 f1)) (P := fun (tv : Int32 × (Nat → Int32)) => [(a0, .inr (5, [.ref a1, w0_1, w0_2, .ref a4, .ref a5, w0_5, w0_6, w0_7, w0_8, w0_9, w0_10, w0_11, w0_12])), (a1, .inl (cI, 99, .inl f1)), (a4, .inl (cI, 198, .inl tv.2)), (a5, .inl (cZ, 2, .inl f5))]) (L := fun (tv : Int32 × (Nat → Int32)) => [(0, .ref a0), (1, .int u1), (2, .int tv.1)]) (nL := 3) (res := res) (A := A) (H0 := s.heap) (fun _ => rfl) ?_ 1000 (0, f4) _ _ hsp hP hD hS _ hl
    · intro n1 ih1 tv H locs hsp hP hD hS ls hl
      obtain ⟨x3, y4⟩ := tv
      have hsp : s_X5_save_B1  f1 u1 (s_X5_save_X1 f5 u1 f1) (s_X5_save_L1 f1 u1 (s_X5_save_X1 f5 u1 f1) n1) x3 y4 = some res := hsp
      unfold s_X5_save_B1 at hsp
      have hP : va_P D vwCl [(a0, .inr (5, [.ref a1, w0_1, w0_2, .ref a4, .ref a5, w0_5, w0_6, w0_7, w0_8, w0_9, w0_10, w0_11, w0_12])), (a1, .inl (cI, 99, .inl f1)), (a4, .inl (cI, 198, .inl y4)), (a5, .inl (cZ, 2, .inl f5))] H := hP
      have hD : va_D A [(a0, .inr (5, [.ref a1, w0_1, w0_2, .ref a4, .ref a5, w0_5, w0_6, w0_7, w0_8, w0_9, w0_10, w0_11, w0_12])), (a1, .inl (cI, 99, .inl f1)), (a4, .inl (cI, 198, .inl y4)), (a5, .inl (cZ, 2, .inl f5))] := hD
      have hl : lv_has ls 3 [(0, .ref a0), (1, .int u1), (2, .int x3)] := hl
      refine lv_iload_n hx hb dX5_save_14 rfl (lv_at hl 2 rfl) ?_
      refine lv_bipush (v := 99) hx hb dX5_save_15 (by decide) ?_
      refine lv_icmp_ge (tgt := 43) hx hb dX5_save_17 (by decide) (fun c8 => ?_) (fun c8 => ?_)
      · have hsp := itT hsp c8
        exact hx1 y4 _ _ hsp hP hD hS _ (lv_sub hl [0, 1] rfl)
      have hsp := itF hsp c8
      refine lv_aload_n hx hb dX5_save_20 rfl (lv_at hl 0 rfl) ?_
      refine va_get (D := D) (ci := 5) (v := .ref a4) (C := RX5) (T := TX5) (N := 13) hx hb hts hi_X5 hown hK hP 0 rfl rfl 3 (by decide) hf_19 (fun _ h9 => h9) rfl dX5_save_21 ?_
      refine lv_bipush (v := 99) hx hb dX5_save_24 (by decide) ?_
      refine lv_iload_n hx hb dX5_save_26 rfl (lv_at hl 1 rfl) ?_
      refine lv_imul hx hb dX5_save_27 ?_
      refine lv_iload_n hx hb dX5_save_28 rfl (lv_at hl 2 rfl) ?_
      refine lv_iadd hx hb dX5_save_29 ?_
      refine lv_aload_n hx hb dX5_save_30 rfl (lv_at hl 0 rfl) ?_
      refine va_get (D := D) (ci := 5) (v := .ref a1) (C := RX5) (T := TX5) (N := 13) hx hb hts hi_X5 hown hK hP 0 rfl rfl 0 (by decide) hf_7 (fun _ h9 => h9) rfl dX5_save_31 ?_
      refine lv_iload_n hx hb dX5_save_34 rfl (lv_at hl 2 rfl) ?_
      obtain ⟨x9, ex9, hnx9, hsp⟩ := ldE hsp
      refine r_iald hx hb hK hP 1 0 rfl rfl ex9 hnx9 dX5_save_35 ?_
      obtain ⟨y10, ey10, hny10, hsp⟩ := stoE hsp
      refine r_iast (ws' := [(a0, .inr (5, [.ref a1, w0_1, w0_2, .ref a4, .ref a5, w0_5, w0_6, w0_7, w0_8, w0_9, w0_10, w0_11, w0_12])), (a1, .inl (cI, 99, .inl f1)), (a4, .inl (cI, 198, .inl y10)), (a5, .inl (cZ, 2, .inl f5))]) hx hb hK hP hD hS 2 0 rfl rfl ey10 hny10 rfl dX5_save_36 (fun H locs hP hD hS => ?_)
      obtain ⟨x11, ex11, hsp⟩ := nmE hsp
      refine lv_iinc (k := 2) (v := x11) (lv' := [(2, .int x11), (0, .ref a0), (1, .int u1)]) hx hb dX5_save_37 hl rfl (by rw [ex11]; rfl) (by decide) rfl (fun ls hl => ?_)
      refine lv_goto (tgt := 14) hx hb dX5_save_40 (by decide) ?_
      exact ih1 (x11, y10) _ _ hsp hP hD hS _ (lv_sub hl [1, 2, 0] rfl)
  have hsp := itT hsp c2
  refine lv_bipush (v := (-2)) hx hb dX5_save_9 (by decide) ?_
  have hres := Option.some.inj hsp
  subst hres
  exact W.iret (v := (-2)) hx hb hr (fun t ht hW => ⟨⟨(-2), (), rfl, rfl, P_at ht hP⟩, hS.F ht⟩) hS.2.2 dX5_save_11

theorem nd_X5_set : yX5_set.cls = RX5 ∧ yX5_set.cls ≠ "java/lang/invoke/MethodHandle" ∧ yX5_set.cls ≠ "java/lang/invoke/VarHandle" ∧ (parseMethodDescriptor yX5_set.desc).map (fun d => d.parameters.length) = some 2 := by decide +kernel
set_option maxHeartbeats 8000000 in
set_option maxRecDepth 100000 in
theorem k_X5_set (l : Launch) (D : va_G) (cI cZ cC cS : ClassId) (sz : Nat) (a0 a1 a2 a3 : Nat) (w0_3 : Value) (w0_4 : Value) (w0_5 : Value) (w0_6 : Value) (w0_7 : Value) (w0_8 : Value) (w0_9 : Value) (g0_10 : Int32) (w0_11 : Value) (w0_12 : Value) (f1 : Nat → Int32) (f2 : Nat → Int32) (f3 : Nat → Int32) (u1 : Int32) (u2 : Int32) (res : Int32 × Int32 × (Nat → Int32) × (Nat → Int32) × (Nat → Int32)) (hsp : s_X5_set g0_10 f1 f2 f3 u1 u2 = some res) : Met l yX5_set wsX5_set ({ frames := 1, cells := 0, slots := 0, locals := 22 }) (va_Pc [.ref a0, .int u1, .int u2] (PB D cI cZ cC cS [(a0, .inr (5, [.ref a1, .ref a2, .ref a3, w0_3, w0_4, w0_5, w0_6, w0_7, w0_8, w0_9, .int g0_10, w0_11, w0_12])), (a1, .inl (cI, 99, .inl f1)), (a2, .inl (cI, 99, .inl f2)), (a3, .inl (cI, 594, .inl f3))] sz)) (va_Qi (fun r (_ : Unit) => r = res.1) (fun _ t => va_P D vwCl [(a0, .inr (5, [.ref a1, .ref a2, .ref a3, w0_3, w0_4, w0_5, w0_6, w0_7, w0_8, w0_9, .int res.2.1, w0_11, w0_12])), (a1, .inl (cI, 99, .inl res.2.2.1)), (a2, .inl (cI, 99, .inl res.2.2.2.1)), (a3, .inl (cI, 594, .inl res.2.2.2.2))] t.heap) (va_A [(a0, .inr (5, [.ref a1, .ref a2, .ref a3, w0_3, w0_4, w0_5, w0_6, w0_7, w0_8, w0_9, .int g0_10, w0_11, w0_12])), (a1, .inl (cI, 99, .inl f1)), (a2, .inl (cI, 99, .inl f2)), (a3, .inl (cI, 594, .inl f3))] sz)) 0 0 (va_A [(a0, .inr (5, [.ref a1, .ref a2, .ref a3, w0_3, w0_4, w0_5, w0_6, w0_7, w0_8, w0_9, .int g0_10, w0_11, w0_12])), (a1, .inl (cI, 99, .inl f1)), (a2, .inl (cI, 99, .inl f2)), (a3, .inl (cI, 594, .inl f3))] sz) := by
  refine Met.ofW (cc := cX5_set) (maxL := 5) (ret := (some .int)) (by decide) rfl ?_
  intro p e s m args below meth c s₁ B hml hv
  obtain ⟨rfl, hsz, hP, hD0, hKU⟩ := hv
  have hx := B.exec
  have hb := B.bytes
  have hr := B.returns
  have hts := atoms_spec (ws := wsX5_set) B.pre
  have hown : s.vm.findClass RX5 = some m.cls := findClass_of_methodNamed B.named
  have hlocks := B.notSynchronized
  have hK := hKU.1
  have hf_7 := hts (.fieldLink RX5 7 "ThinnedPotsModel" "s" "[I") (by decide +kernel)
  have hi_X5 : ∀ w ∈ u_ws RX5 TX5 13, w ∈ wsX5_set := by decide +kernel
  subst hsz
  have hD := hD0.self (sz := s.heap.size)
  generalize hAe : va_A [(a0, .inr (5, [.ref a1, .ref a2, .ref a3, w0_3, w0_4, w0_5, w0_6, w0_7, w0_8, w0_9, .int g0_10, w0_11, w0_12])), (a1, .inl (cI, 99, .inl f1)), (a2, .inl (cI, 99, .inl f2)), (a3, .inl (cI, 594, .inl f3))] s.heap.size = A at hD ⊢
  have hA : ∀ q : Nat, s.heap.size ≤ q → A q := fun q h => by rw [← hAe]; exact Or.inr h
  have hP : va_P D vwCl [(a0, .inr (5, [.ref a1, .ref a2, .ref a3, w0_3, w0_4, w0_5, w0_6, w0_7, w0_8, w0_9, .int g0_10, w0_11, w0_12])), (a1, .inl (cI, 99, .inl f1)), (a2, .inl (cI, 99, .inl f2)), (a3, .inl (cI, 594, .inl f3))] s.heap := hP
  generalize hHe : s.heap = H at hP ⊢
  have hS : va_S A s.heap H [] := by rw [hHe]; exact va_S.rf
  have hl := lv_entry ([.ref a0, .int u1, .int u2]) (n := 5) (Nat.le_of_ble_eq_true rfl)
  rw [lg_entry_eq]
  generalize (lg_sl ([.ref a0, .int u1, .int u2]) ++ List.replicate (5 - (lg_sl ([.ref a0, .int u1, .int u2])).length) Slot.unset).toArray = ls at hl ⊢
  have hl : lv_has ls 5 [(0, .ref a0), (1, .int u1), (2, .int u2)] := hl
  unfold s_X5_set at hsp
  refine lv_iload_n hx hb dX5_set_0 rfl (lv_at hl 1 rfl) ?_
  refine lv_if_ne (tgt := 14) hx hb dX5_set_1 (by decide) (fun c1 => ?_) (fun c1 => ?_)
  · have hsp := itF hsp c1
    refine lv_iload_n hx hb dX5_set_14 rfl (lv_at hl 1 rfl) ?_
    refine lv_iconst (v := 1) hx hb dX5_set_15 (by decide) ?_
    refine lv_icmp_ne (tgt := 33) hx hb dX5_set_16 (by decide) (fun c2 => ?_) (fun c2 => ?_)
    · have hsp := itF hsp c2
      refine lv_iconst (v := 0) hx hb dX5_set_33 (by decide) ?_
      refine lv_istore_n (lv' := [(3, .int 0), (0, .ref a0), (1, .int u1), (2, .int u2)]) hx hb dX5_set_34 rfl hl (by decide) rfl (fun ls hl => ?_)
      refine lv_iload_n hx hb dX5_set_35 rfl (lv_at hl 0 rfl) ?_
      refine lv_if_ne (tgt := 42) hx hb dX5_set_36 (by decide) (fun hc => absurd hc (by decide)) (fun _ => ?_)
      refine lv_bipush (v := (-2)) hx hb dX5_set_39 (by decide) ?_
      have hres := Option.some.inj hsp
      subst hres
      exact W.iret (v := (-2)) hx hb hr (fun t ht hW => ⟨⟨(-2), (), rfl, rfl, P_at ht hP⟩, hS.F ht⟩) hS.2.2 dX5_set_41
    have hsp := itT hsp c2
    refine lv_iload_n hx hb dX5_set_19 rfl (lv_at hl 2 rfl) ?_
    refine lv_iconst (v := 0) hx hb dX5_set_20 (by decide) ?_
    refine lv_bipush (v := 60) hx hb dX5_set_21 (by decide) ?_
    obtain ⟨r3, hcr3, hsp⟩ := clE hsp
    refine call_z (w1 := []) (ws' := [(a0, .inr (5, [.ref a1, .ref a2, .ref a3, w0_3, w0_4, w0_5, w0_6, w0_7, w0_8, w0_9, .int g0_10, w0_11, w0_12])), (a1, .inl (cI, 99, .inl f1)), (a2, .inl (cI, 99, .inl f2)), (a3, .inl (cI, 594, .inl f3))]) (va_runS (As := [.int u2, .int 0, .int 60]) (rest := []) ⟨hx, hb, hml, hown, hts⟩ (k_X5_in l D cI cZ cC cS H.size u2 0 60 r3 hcr3) (va_cwS 3 hts gX5_set_X5_in rfl rfl rfl nd_X5_in.2 ⟨Nat.le_of_ble_eq_true rfl, Nat.le_of_ble_eq_true rfl⟩) (PB.preS hKU hP hD [] rfl rfl) rfl rfl hl.1 rfl (lv_room (Nat.le_of_ble_eq_true rfl)) dX5_set_23 ⟨Nat.zero_le _, Nat.zero_le _⟩) hS hP hD hA [] rfl rfl (by first | (simp only [wset, List.set_cons_zero, List.set_cons_succ]; done) | rfl) rfl (fun H locs hP hD hS hzr3 => ?_)
    refine lv_if_eq (tgt := 33) hx hb dX5_set_26 (by decide) (fun c4 => ?_) (fun c4 => ?_)
    · have hsp := itT hsp c4
      refine lv_iconst (v := 0) hx hb dX5_set_33 (by decide) ?_
      refine lv_istore_n (lv' := [(3, .int 0), (0, .ref a0), (1, .int u1), (2, .int u2)]) hx hb dX5_set_34 rfl hl (by decide) rfl (fun ls hl => ?_)
      refine lv_iload_n hx hb dX5_set_35 rfl (lv_at hl 0 rfl) ?_
      refine lv_if_ne (tgt := 42) hx hb dX5_set_36 (by decide) (fun hc => absurd hc (by decide)) (fun _ => ?_)
      refine lv_bipush (v := (-2)) hx hb dX5_set_39 (by decide) ?_
      have hres := Option.some.inj hsp
      subst hres
      exact W.iret (v := (-2)) hx hb hr (fun t ht hW => ⟨⟨(-2), (), rfl, rfl, P_at ht hP⟩, hS.F ht⟩) hS.2.2 dX5_set_41
    have hsp := itF hsp c4
    refine lv_iconst (v := 1) hx hb dX5_set_29 (by decide) ?_
    refine lv_goto (tgt := 34) hx hb dX5_set_30 (by decide) ?_
    refine lv_istore_n (lv' := [(3, .int 1), (0, .ref a0), (1, .int u1), (2, .int u2)]) hx hb dX5_set_34 rfl hl (by decide) rfl (fun ls hl => ?_)
    refine lv_iload_n hx hb dX5_set_35 rfl (lv_at hl 0 rfl) ?_
    refine lv_if_ne (tgt := 42) hx hb dX5_set_36 (by decide) (fun _ => ?_) (fun hc => absurd hc (by decide))
    refine lv_aload_n hx hb dX5_set_42 rfl (lv_at hl 1 rfl) ?_
    obtain ⟨r5, hcr5, hsp⟩ := clE hsp
    refine call_v (w1 := [(a0, .inr (5, [.ref a1, .ref a2, .ref a3, w0_3, w0_4, w0_5, w0_6, w0_7, w0_8, w0_9, .int g0_10, w0_11, w0_12])), (a1, .inl (cI, 99, .inl f1)), (a2, .inl (cI, 99, .inl r5))]) (ws' := [(a0, .inr (5, [.ref a1, .ref a2, .ref a3, w0_3, w0_4, w0_5, w0_6, w0_7, w0_8, w0_9, .int g0_10, w0_11, w0_12])), (a1, .inl (cI, 99, .inl f1)), (a2, .inl (cI, 99, .inl r5)), (a3, .inl (cI, 594, .inl f3))]) (va_runV (As := []) (rest := []) ⟨hx, hb, hml, hown, hts⟩ (k_X5_hold l D cI cZ cC cS H.size a0 a1 a2 (.ref a3) (w0_3) (w0_4) (w0_5) (w0_6) (w0_7) (w0_8) (w0_9) (.int g0_10) (w0_11) (w0_12) f1 f2 r5 hcr5) (cwV 0 hts gX5_set_X5_hold rfl rfl rfl nd_X5_hold ⟨Nat.le_of_ble_eq_true rfl, Nat.le_of_ble_eq_true rfl⟩) (PB.preV (ci := 5) (q0 := 0) hKU hP hD [0, 1, 2] rfl rfl rfl rfl) rfl rfl hl.1 rfl (lv_room (Nat.le_of_ble_eq_true rfl)) dX5_set_43 ⟨Nat.zero_le _, Nat.zero_le _⟩) hS hP hD hA [0, 1, 2] rfl rfl (by first | (simp only [wset, List.set_cons_zero, List.set_cons_succ]; done) | rfl) rfl (fun H locs hP hD hS => ?_)
    refine lv_aload_n hx hb dX5_set_46 rfl (lv_at hl 1 rfl) ?_
    refine va_get (D := D) (ci := 5) (v := .ref a1) (C := RX5) (T := TX5) (N := 13) hx hb hts hi_X5 hown hK hP 0 rfl rfl 0 (by decide) hf_7 (fun _ h9 => h9) rfl dX5_set_47 ?_
    refine lv_iload_n hx hb dX5_set_50 rfl (lv_at hl 2 rfl) ?_
    obtain ⟨x6, ex6, hnx6, hsp⟩ := ldE hsp
    refine r_iald hx hb hK hP 1 0 rfl rfl ex6 hnx6 dX5_set_51 ?_
    refine lv_istore (lv' := [(4, .int x6), (3, .int 1), (0, .ref a0), (1, .int u1), (2, .int u2)]) hx hb dX5_set_52 hl (by decide) rfl (fun ls hl => ?_)
    refine lv_aload_n hx hb dX5_set_54 rfl (lv_at hl 2 rfl) ?_
    refine va_get (D := D) (ci := 5) (v := .ref a1) (C := RX5) (T := TX5) (N := 13) hx hb hts hi_X5 hown hK hP 0 rfl rfl 0 (by decide) hf_7 (fun _ h9 => h9) rfl dX5_set_55 ?_
    refine lv_iload_n hx hb dX5_set_58 rfl (lv_at hl 3 rfl) ?_
    refine lv_iload_n hx hb dX5_set_59 rfl (lv_at hl 4 rfl) ?_
    obtain ⟨y7, ey7, hny7, hsp⟩ := stoE hsp
    refine r_iast (ws' := [(a0, .inr (5, [.ref a1, .ref a2, .ref a3, w0_3, w0_4, w0_5, w0_6, w0_7, w0_8, w0_9, .int g0_10, w0_11, w0_12])), (a1, .inl (cI, 99, .inl y7)), (a2, .inl (cI, 99, .inl r5)), (a3, .inl (cI, 594, .inl f3))]) hx hb hK hP hD hS 1 0 rfl rfl ey7 hny7 rfl dX5_set_60 (fun H locs hP hD hS => ?_)
    refine lv_aload_n hx hb dX5_set_61 rfl (lv_at hl 2 rfl) ?_
    refine lv_iload hx hb dX5_set_62 (lv_at hl 0 rfl) ?_
    obtain ⟨r8, hcr8, hsp⟩ := clE hsp
    refine call_i (w1 := [(a0, .inr (5, [.ref a1, .ref a2, .ref a3, w0_3, w0_4, w0_5, w0_6, w0_7, w0_8, w0_9, .int r8.2.1, w0_11, w0_12])), (a2, .inl (cI, 99, .inl r5)), (a3, .inl (cI, 594, .inl r8.2.2))]) (ws' := [(a0, .inr (5, [.ref a1, .ref a2, .ref a3, w0_3, w0_4, w0_5, w0_6, w0_7, w0_8, w0_9, .int r8.2.1, w0_11, w0_12])), (a1, .inl (cI, 99, .inl y7)), (a2, .inl (cI, 99, .inl r5)), (a3, .inl (cI, 594, .inl r8.2.2))]) (va_runV (As := [.int x6]) (rest := []) ⟨hx, hb, hml, hown, hts⟩ (k_X5_recorded l D cI cZ cC cS H.size a0 a2 a3 (.ref a1) (w0_3) (w0_4) (w0_5) (w0_6) (w0_7) (w0_8) (w0_9) g0_10 (w0_11) (w0_12) r5 f3 x6 r8 hcr8) (cwV 1 hts gX5_set_X5_recorded rfl rfl rfl nd_X5_recorded ⟨Nat.le_of_ble_eq_true rfl, Nat.le_of_ble_eq_true rfl⟩) (PB.preV (ci := 5) (q0 := 0) hKU hP hD [0, 2, 3] rfl rfl rfl rfl) rfl rfl hl.1 rfl (lv_room (Nat.le_of_ble_eq_true rfl)) dX5_set_64 ⟨Nat.zero_le _, Nat.zero_le _⟩) hS hP hD hA [0, 2, 3] rfl rfl (by first | (simp only [wset, List.set_cons_zero, List.set_cons_succ]; done) | rfl) rfl (fun H locs hP hD hS => ?_)
    have hres := Option.some.inj hsp
    subst hres
    exact W.iret (v := r8.1) hx hb hr (fun t ht hW => ⟨⟨r8.1, (), rfl, rfl, P_at ht hP⟩, hS.F ht⟩) hS.2.2 dX5_set_67
  have hsp := itT hsp c1
  refine lv_iload_n hx hb dX5_set_4 rfl (lv_at hl 2 rfl) ?_
  refine lv_iconst (v := 1) hx hb dX5_set_5 (by decide) ?_
  refine lv_bipush (v := 9) hx hb dX5_set_6 (by decide) ?_
  obtain ⟨r9, hcr9, hsp⟩ := clE hsp
  refine call_z (w1 := []) (ws' := [(a0, .inr (5, [.ref a1, .ref a2, .ref a3, w0_3, w0_4, w0_5, w0_6, w0_7, w0_8, w0_9, .int g0_10, w0_11, w0_12])), (a1, .inl (cI, 99, .inl f1)), (a2, .inl (cI, 99, .inl f2)), (a3, .inl (cI, 594, .inl f3))]) (va_runS (As := [.int u2, .int 1, .int 9]) (rest := []) ⟨hx, hb, hml, hown, hts⟩ (k_X5_in l D cI cZ cC cS H.size u2 1 9 r9 hcr9) (va_cwS 3 hts gX5_set_X5_in rfl rfl rfl nd_X5_in.2 ⟨Nat.le_of_ble_eq_true rfl, Nat.le_of_ble_eq_true rfl⟩) (PB.preS hKU hP hD [] rfl rfl) rfl rfl hl.1 rfl (lv_room (Nat.le_of_ble_eq_true rfl)) dX5_set_8 ⟨Nat.zero_le _, Nat.zero_le _⟩) hS hP hD hA [] rfl rfl (by first | (simp only [wset, List.set_cons_zero, List.set_cons_succ]; done) | rfl) rfl (fun H locs hP hD hS hzr9 => ?_)
  refine lv_goto (tgt := 34) hx hb dX5_set_11 (by decide) ?_
  refine lv_istore_n (lv' := [(3, .int r9), (0, .ref a0), (1, .int u1), (2, .int u2)]) hx hb dX5_set_34 rfl hl (by decide) rfl (fun ls hl => ?_)
  refine lv_iload_n hx hb dX5_set_35 rfl (lv_at hl 0 rfl) ?_
  refine lv_if_ne (tgt := 42) hx hb dX5_set_36 (by decide) (fun c10 => ?_) (fun c10 => ?_)
  · have hsp := itF hsp c10
    refine lv_aload_n hx hb dX5_set_42 rfl (lv_at hl 1 rfl) ?_
    obtain ⟨r11, hcr11, hsp⟩ := clE hsp
    refine call_v (w1 := [(a0, .inr (5, [.ref a1, .ref a2, .ref a3, w0_3, w0_4, w0_5, w0_6, w0_7, w0_8, w0_9, .int g0_10, w0_11, w0_12])), (a1, .inl (cI, 99, .inl f1)), (a2, .inl (cI, 99, .inl r11))]) (ws' := [(a0, .inr (5, [.ref a1, .ref a2, .ref a3, w0_3, w0_4, w0_5, w0_6, w0_7, w0_8, w0_9, .int g0_10, w0_11, w0_12])), (a1, .inl (cI, 99, .inl f1)), (a2, .inl (cI, 99, .inl r11)), (a3, .inl (cI, 594, .inl f3))]) (va_runV (As := []) (rest := []) ⟨hx, hb, hml, hown, hts⟩ (k_X5_hold l D cI cZ cC cS H.size a0 a1 a2 (.ref a3) (w0_3) (w0_4) (w0_5) (w0_6) (w0_7) (w0_8) (w0_9) (.int g0_10) (w0_11) (w0_12) f1 f2 r11 hcr11) (cwV 0 hts gX5_set_X5_hold rfl rfl rfl nd_X5_hold ⟨Nat.le_of_ble_eq_true rfl, Nat.le_of_ble_eq_true rfl⟩) (PB.preV (ci := 5) (q0 := 0) hKU hP hD [0, 1, 2] rfl rfl rfl rfl) rfl rfl hl.1 rfl (lv_room (Nat.le_of_ble_eq_true rfl)) dX5_set_43 ⟨Nat.zero_le _, Nat.zero_le _⟩) hS hP hD hA [0, 1, 2] rfl rfl (by first | (simp only [wset, List.set_cons_zero, List.set_cons_succ]; done) | rfl) rfl (fun H locs hP hD hS => ?_)
    refine lv_aload_n hx hb dX5_set_46 rfl (lv_at hl 1 rfl) ?_
    refine va_get (D := D) (ci := 5) (v := .ref a1) (C := RX5) (T := TX5) (N := 13) hx hb hts hi_X5 hown hK hP 0 rfl rfl 0 (by decide) hf_7 (fun _ h9 => h9) rfl dX5_set_47 ?_
    refine lv_iload_n hx hb dX5_set_50 rfl (lv_at hl 2 rfl) ?_
    obtain ⟨x12, ex12, hnx12, hsp⟩ := ldE hsp
    refine r_iald hx hb hK hP 1 0 rfl rfl ex12 hnx12 dX5_set_51 ?_
    refine lv_istore (lv' := [(4, .int x12), (3, .int r9), (0, .ref a0), (1, .int u1), (2, .int u2)]) hx hb dX5_set_52 hl (by decide) rfl (fun ls hl => ?_)
    refine lv_aload_n hx hb dX5_set_54 rfl (lv_at hl 2 rfl) ?_
    refine va_get (D := D) (ci := 5) (v := .ref a1) (C := RX5) (T := TX5) (N := 13) hx hb hts hi_X5 hown hK hP 0 rfl rfl 0 (by decide) hf_7 (fun _ h9 => h9) rfl dX5_set_55 ?_
    refine lv_iload_n hx hb dX5_set_58 rfl (lv_at hl 3 rfl) ?_
    refine lv_iload_n hx hb dX5_set_59 rfl (lv_at hl 4 rfl) ?_
    obtain ⟨y13, ey13, hny13, hsp⟩ := stoE hsp
    refine r_iast (ws' := [(a0, .inr (5, [.ref a1, .ref a2, .ref a3, w0_3, w0_4, w0_5, w0_6, w0_7, w0_8, w0_9, .int g0_10, w0_11, w0_12])), (a1, .inl (cI, 99, .inl y13)), (a2, .inl (cI, 99, .inl r11)), (a3, .inl (cI, 594, .inl f3))]) hx hb hK hP hD hS 1 0 rfl rfl ey13 hny13 rfl dX5_set_60 (fun H locs hP hD hS => ?_)
    refine lv_aload_n hx hb dX5_set_61 rfl (lv_at hl 2 rfl) ?_
    refine lv_iload hx hb dX5_set_62 (lv_at hl 0 rfl) ?_
    obtain ⟨r14, hcr14, hsp⟩ := clE hsp
    refine call_i (w1 := [(a0, .inr (5, [.ref a1, .ref a2, .ref a3, w0_3, w0_4, w0_5, w0_6, w0_7, w0_8, w0_9, .int r14.2.1, w0_11, w0_12])), (a2, .inl (cI, 99, .inl r11)), (a3, .inl (cI, 594, .inl r14.2.2))]) (ws' := [(a0, .inr (5, [.ref a1, .ref a2, .ref a3, w0_3, w0_4, w0_5, w0_6, w0_7, w0_8, w0_9, .int r14.2.1, w0_11, w0_12])), (a1, .inl (cI, 99, .inl y13)), (a2, .inl (cI, 99, .inl r11)), (a3, .inl (cI, 594, .inl r14.2.2))]) (va_runV (As := [.int x12]) (rest := []) ⟨hx, hb, hml, hown, hts⟩ (k_X5_recorded l D cI cZ cC cS H.size a0 a2 a3 (.ref a1) (w0_3) (w0_4) (w0_5) (w0_6) (w0_7) (w0_8) (w0_9) g0_10 (w0_11) (w0_12) r11 f3 x12 r14 hcr14) (cwV 1 hts gX5_set_X5_recorded rfl rfl rfl nd_X5_recorded ⟨Nat.le_of_ble_eq_true rfl, Nat.le_of_ble_eq_true rfl⟩) (PB.preV (ci := 5) (q0 := 0) hKU hP hD [0, 2, 3] rfl rfl rfl rfl) rfl rfl hl.1 rfl (lv_room (Nat.le_of_ble_eq_true rfl)) dX5_set_64 ⟨Nat.zero_le _, Nat.zero_le _⟩) hS hP hD hA [0, 2, 3] rfl rfl (by first | (simp only [wset, List.set_cons_zero, List.set_cons_succ]; done) | rfl) rfl (fun H locs hP hD hS => ?_)
    have hres := Option.some.inj hsp
    subst hres
    exact W.iret (v := r14.1) hx hb hr (fun t ht hW => ⟨⟨r14.1, (), rfl, rfl, P_at ht hP⟩, hS.F ht⟩) hS.2.2 dX5_set_67
  have hsp := itT hsp c10
  refine lv_bipush (v := (-2)) hx hb dX5_set_39 (by decide) ?_
  have hres := Option.some.inj hsp
  subst hres
  exact W.iret (v := (-2)) hx hb hr (fun t ht hW => ⟨⟨(-2), (), rfl, rfl, P_at ht hP⟩, hS.F ht⟩) hS.2.2 dX5_set_41

theorem nd_X5_thin : yX5_thin.cls = RX5 ∧ yX5_thin.cls ≠ "java/lang/invoke/MethodHandle" ∧ yX5_thin.cls ≠ "java/lang/invoke/VarHandle" ∧ (parseMethodDescriptor yX5_thin.desc).map (fun d => d.parameters.length) = some 1 := by decide +kernel
set_option maxHeartbeats 8000000 in
set_option maxRecDepth 100000 in
theorem k_X5_thin (l : Launch) (D : va_G) (cI cZ cC cS : ClassId) (sz : Nat) (a0 a1 a2 a3 : Nat) (w0_3 : Value) (w0_4 : Value) (w0_5 : Value) (w0_6 : Value) (w0_7 : Value) (w0_8 : Value) (w0_9 : Value) (g0_10 : Int32) (w0_11 : Value) (w0_12 : Value) (f1 : Nat → Int32) (f2 : Nat → Int32) (f3 : Nat → Int32) (u1 : Int32) (res : Int32 × Int32 × (Nat → Int32) × (Nat → Int32) × (Nat → Int32)) (hsp : s_X5_thin g0_10 f1 f2 f3 u1 = some res) : Met l yX5_thin wsX5_thin ({ frames := 3, cells := 0, slots := 0, locals := 64 }) (va_Pc [.ref a0, .int u1] (PB D cI cZ cC cS [(a0, .inr (5, [.ref a1, .ref a2, .ref a3, w0_3, w0_4, w0_5, w0_6, w0_7, w0_8, w0_9, .int g0_10, w0_11, w0_12])), (a1, .inl (cI, 99, .inl f1)), (a2, .inl (cI, 99, .inl f2)), (a3, .inl (cI, 594, .inl f3))] sz)) (va_Qi (fun r (_ : Unit) => r = res.1) (fun _ t => va_P D vwCl [(a0, .inr (5, [.ref a1, .ref a2, .ref a3, w0_3, w0_4, w0_5, w0_6, w0_7, w0_8, w0_9, .int res.2.1, w0_11, w0_12])), (a1, .inl (cI, 99, .inl res.2.2.1)), (a2, .inl (cI, 99, .inl res.2.2.2.1)), (a3, .inl (cI, 594, .inl res.2.2.2.2))] t.heap) (va_A [(a0, .inr (5, [.ref a1, .ref a2, .ref a3, w0_3, w0_4, w0_5, w0_6, w0_7, w0_8, w0_9, .int g0_10, w0_11, w0_12])), (a1, .inl (cI, 99, .inl f1)), (a2, .inl (cI, 99, .inl f2)), (a3, .inl (cI, 594, .inl f3))] sz)) 0 0 (va_A [(a0, .inr (5, [.ref a1, .ref a2, .ref a3, w0_3, w0_4, w0_5, w0_6, w0_7, w0_8, w0_9, .int g0_10, w0_11, w0_12])), (a1, .inl (cI, 99, .inl f1)), (a2, .inl (cI, 99, .inl f2)), (a3, .inl (cI, 594, .inl f3))] sz) := by
  refine Met.ofW (cc := cX5_thin) (maxL := 2) (ret := (some .int)) (by decide) rfl ?_
  intro p e s m args below meth c s₁ B hml hv
  obtain ⟨rfl, hsz, hP, hD0, hKU⟩ := hv
  have hx := B.exec
  have hb := B.bytes
  have hr := B.returns
  have hts := atoms_spec (ws := wsX5_thin) B.pre
  have hown : s.vm.findClass RX5 = some m.cls := findClass_of_methodNamed B.named
  have hlocks := B.notSynchronized
  have hK := hKU.1
  subst hsz
  have hD := hD0.self (sz := s.heap.size)
  generalize hAe : va_A [(a0, .inr (5, [.ref a1, .ref a2, .ref a3, w0_3, w0_4, w0_5, w0_6, w0_7, w0_8, w0_9, .int g0_10, w0_11, w0_12])), (a1, .inl (cI, 99, .inl f1)), (a2, .inl (cI, 99, .inl f2)), (a3, .inl (cI, 594, .inl f3))] s.heap.size = A at hD ⊢
  have hA : ∀ q : Nat, s.heap.size ≤ q → A q := fun q h => by rw [← hAe]; exact Or.inr h
  have hP : va_P D vwCl [(a0, .inr (5, [.ref a1, .ref a2, .ref a3, w0_3, w0_4, w0_5, w0_6, w0_7, w0_8, w0_9, .int g0_10, w0_11, w0_12])), (a1, .inl (cI, 99, .inl f1)), (a2, .inl (cI, 99, .inl f2)), (a3, .inl (cI, 594, .inl f3))] s.heap := hP
  generalize hHe : s.heap = H at hP ⊢
  have hS : va_S A s.heap H [] := by rw [hHe]; exact va_S.rf
  have hl := lv_entry ([.ref a0, .int u1]) (n := 2) (Nat.le_of_ble_eq_true rfl)
  rw [lg_entry_eq]
  generalize (lg_sl ([.ref a0, .int u1]) ++ List.replicate (2 - (lg_sl ([.ref a0, .int u1])).length) Slot.unset).toArray = ls at hl ⊢
  have hl : lv_has ls 2 [(0, .ref a0), (1, .int u1)] := hl
  unfold s_X5_thin at hsp
  refine lv_aload_n hx hb dX5_thin_0 rfl (lv_at hl 0 rfl) ?_
  obtain ⟨r1, hcr1, hsp⟩ := clE hsp
  refine call_v (w1 := [(a0, .inr (5, [.ref a1, .ref a2, .ref a3, w0_3, w0_4, w0_5, w0_6, w0_7, w0_8, w0_9, .int g0_10, w0_11, w0_12])), (a1, .inl (cI, 99, .inl f1)), (a2, .inl (cI, 99, .inl r1))]) (ws' := [(a0, .inr (5, [.ref a1, .ref a2, .ref a3, w0_3, w0_4, w0_5, w0_6, w0_7, w0_8, w0_9, .int g0_10, w0_11, w0_12])), (a1, .inl (cI, 99, .inl f1)), (a2, .inl (cI, 99, .inl r1)), (a3, .inl (cI, 594, .inl f3))]) (va_runV (As := []) (rest := []) ⟨hx, hb, hml, hown, hts⟩ (k_X5_hold l D cI cZ cC cS H.size a0 a1 a2 (.ref a3) (w0_3) (w0_4) (w0_5) (w0_6) (w0_7) (w0_8) (w0_9) (.int g0_10) (w0_11) (w0_12) f1 f2 r1 hcr1) (cwV 0 hts gX5_thin_X5_hold rfl rfl rfl nd_X5_hold ⟨Nat.le_of_ble_eq_true rfl, Nat.le_of_ble_eq_true rfl⟩) (PB.preV (ci := 5) (q0 := 0) hKU hP hD [0, 1, 2] rfl rfl rfl rfl) rfl rfl hl.1 rfl (lv_room (Nat.le_of_ble_eq_true rfl)) dX5_thin_1 ⟨Nat.zero_le _, Nat.zero_le _⟩) hS hP hD hA [0, 1, 2] rfl rfl (by first | (simp only [wset, List.set_cons_zero, List.set_cons_succ]; done) | rfl) rfl (fun H locs hP hD hS => ?_)
  refine lv_aload_n hx hb dX5_thin_4 rfl (lv_at hl 0 rfl) ?_
  refine lv_aload_n hx hb dX5_thin_5 rfl (lv_at hl 0 rfl) ?_
  refine lv_iload_n hx hb dX5_thin_6 rfl (lv_at hl 1 rfl) ?_
  obtain ⟨r2, hcr2, hsp⟩ := clE hsp
  refine call_i (w1 := [(a0, .inr (5, [.ref a1, .ref a2, .ref a3, w0_3, w0_4, w0_5, w0_6, w0_7, w0_8, w0_9, .int g0_10, w0_11, w0_12])), (a1, .inl (cI, 99, .inl r2.2))]) (ws' := [(a0, .inr (5, [.ref a1, .ref a2, .ref a3, w0_3, w0_4, w0_5, w0_6, w0_7, w0_8, w0_9, .int g0_10, w0_11, w0_12])), (a1, .inl (cI, 99, .inl r2.2)), (a2, .inl (cI, 99, .inl r1)), (a3, .inl (cI, 594, .inl f3))]) (va_runV (As := [.int u1]) (rest := [.ref a0]) ⟨hx, hb, hml, hown, hts⟩ (k_X5_thins l D cI cZ cC cS H.size a0 a1 (.ref a2) (.ref a3) (w0_3) (w0_4) (w0_5) (w0_6) (w0_7) (w0_8) (w0_9) (.int g0_10) (w0_11) (w0_12) f1 u1 r2 hcr2) (cwV 1 hts gX5_thin_X5_thins rfl rfl rfl nd_X5_thins ⟨Nat.le_of_ble_eq_true rfl, Nat.le_of_ble_eq_true rfl⟩) (PB.preV (ci := 5) (q0 := 0) hKU hP hD [0, 1] rfl rfl rfl rfl) rfl rfl hl.1 rfl (lv_room (Nat.le_of_ble_eq_true rfl)) dX5_thin_7 ⟨Nat.zero_le _, Nat.zero_le _⟩) hS hP hD hA [0, 1] rfl rfl (by first | (simp only [wset, List.set_cons_zero, List.set_cons_succ]; done) | rfl) rfl (fun H locs hP hD hS => ?_)
  obtain ⟨r3, hcr3, hsp⟩ := clE hsp
  refine call_i (w1 := [(a0, .inr (5, [.ref a1, .ref a2, .ref a3, w0_3, w0_4, w0_5, w0_6, w0_7, w0_8, w0_9, .int r3.2.1, w0_11, w0_12])), (a2, .inl (cI, 99, .inl r1)), (a3, .inl (cI, 594, .inl r3.2.2))]) (ws' := [(a0, .inr (5, [.ref a1, .ref a2, .ref a3, w0_3, w0_4, w0_5, w0_6, w0_7, w0_8, w0_9, .int r3.2.1, w0_11, w0_12])), (a1, .inl (cI, 99, .inl r2.2)), (a2, .inl (cI, 99, .inl r1)), (a3, .inl (cI, 594, .inl r3.2.2))]) (va_runV (As := [.int r2.1]) (rest := []) ⟨hx, hb, hml, hown, hts⟩ (k_X5_recorded l D cI cZ cC cS H.size a0 a2 a3 (.ref a1) (w0_3) (w0_4) (w0_5) (w0_6) (w0_7) (w0_8) (w0_9) g0_10 (w0_11) (w0_12) r1 f3 r2.1 r3 hcr3) (cwV 1 hts gX5_thin_X5_recorded rfl rfl rfl nd_X5_recorded ⟨Nat.le_of_ble_eq_true rfl, Nat.le_of_ble_eq_true rfl⟩) (PB.preV (ci := 5) (q0 := 0) hKU hP hD [0, 2, 3] rfl rfl rfl rfl) rfl rfl hl.1 rfl (lv_room (Nat.le_of_ble_eq_true rfl)) dX5_thin_10 ⟨Nat.zero_le _, Nat.zero_le _⟩) hS hP hD hA [0, 2, 3] rfl rfl (by first | (simp only [wset, List.set_cons_zero, List.set_cons_succ]; done) | rfl) rfl (fun H locs hP hD hS => ?_)
  have hres := Option.some.inj hsp
  subst hres
  exact W.iret (v := r3.1) hx hb hr (fun t ht hW => ⟨⟨r3.1, (), rfl, rfl, P_at ht hP⟩, hS.F ht⟩) hS.2.2 dX5_thin_13

theorem nd_X5_undo : yX5_undo.cls = RX5 ∧ yX5_undo.cls ≠ "java/lang/invoke/MethodHandle" ∧ yX5_undo.cls ≠ "java/lang/invoke/VarHandle" ∧ (parseMethodDescriptor yX5_undo.desc).map (fun d => d.parameters.length) = some 0 := by decide +kernel
set_option maxHeartbeats 8000000 in
set_option maxRecDepth 100000 in
theorem k_X5_undo (l : Launch) (D : va_G) (cI cZ cC cS : ClassId) (sz : Nat) (a0 a1 a3 : Nat) (w0_1 : Value) (w0_3 : Value) (w0_4 : Value) (w0_5 : Value) (w0_6 : Value) (w0_7 : Value) (w0_8 : Value) (w0_9 : Value) (g0_10 : Int32) (w0_11 : Value) (w0_12 : Value) (f1 : Nat → Int32) (f3 : Nat → Int32) (res : Int32 × Int32 × (Nat → Int32)) (hsp : s_X5_undo g0_10 f1 f3 = some res) : Met l yX5_undo wsX5_undo ({ frames := 0, cells := 0, slots := 0, locals := 0 }) (va_Pc [.ref a0] (PB D cI cZ cC cS [(a0, .inr (5, [.ref a1, w0_1, .ref a3, w0_3, w0_4, w0_5, w0_6, w0_7, w0_8, w0_9, .int g0_10, w0_11, w0_12])), (a1, .inl (cI, 99, .inl f1)), (a3, .inl (cI, 594, .inl f3))] sz)) (va_Qi (fun r (_ : Unit) => r = res.1) (fun _ t => va_P D vwCl [(a0, .inr (5, [.ref a1, w0_1, .ref a3, w0_3, w0_4, w0_5, w0_6, w0_7, w0_8, w0_9, .int res.2.1, w0_11, w0_12])), (a1, .inl (cI, 99, .inl res.2.2)), (a3, .inl (cI, 594, .inl f3))] t.heap) (va_A [(a0, .inr (5, [.ref a1, w0_1, .ref a3, w0_3, w0_4, w0_5, w0_6, w0_7, w0_8, w0_9, .int g0_10, w0_11, w0_12])), (a1, .inl (cI, 99, .inl f1)), (a3, .inl (cI, 594, .inl f3))] sz)) 0 0 (va_A [(a0, .inr (5, [.ref a1, w0_1, .ref a3, w0_3, w0_4, w0_5, w0_6, w0_7, w0_8, w0_9, .int g0_10, w0_11, w0_12])), (a1, .inl (cI, 99, .inl f1)), (a3, .inl (cI, 594, .inl f3))] sz) := by
  refine Met.ofW (cc := cX5_undo) (maxL := 2) (ret := (some .int)) (by decide) rfl ?_
  intro p e s m args below meth c s₁ B hml hv
  obtain ⟨rfl, hsz, hP, hD0, hKU⟩ := hv
  have hx := B.exec
  have hb := B.bytes
  have hr := B.returns
  have hts := atoms_spec (ws := wsX5_undo) B.pre
  have hown : s.vm.findClass RX5 = some m.cls := findClass_of_methodNamed B.named
  have hlocks := B.notSynchronized
  have hK := hKU.1
  have hf_43 := hts (.fieldLink RX5 43 "ThinnedPotsModel" "states" "I") (by decide +kernel)
  have hi_X5 : ∀ w ∈ u_ws RX5 TX5 13, w ∈ wsX5_undo := by decide +kernel
  have hf_7 := hts (.fieldLink RX5 7 "ThinnedPotsModel" "s" "[I") (by decide +kernel)
  have hf_16 := hts (.fieldLink RX5 16 "ThinnedPotsModel" "before" "[I") (by decide +kernel)
  subst hsz
  have hD := hD0.self (sz := s.heap.size)
  generalize hAe : va_A [(a0, .inr (5, [.ref a1, w0_1, .ref a3, w0_3, w0_4, w0_5, w0_6, w0_7, w0_8, w0_9, .int g0_10, w0_11, w0_12])), (a1, .inl (cI, 99, .inl f1)), (a3, .inl (cI, 594, .inl f3))] s.heap.size = A at hD ⊢
  have hA : ∀ q : Nat, s.heap.size ≤ q → A q := fun q h => by rw [← hAe]; exact Or.inr h
  have hP : va_P D vwCl [(a0, .inr (5, [.ref a1, w0_1, .ref a3, w0_3, w0_4, w0_5, w0_6, w0_7, w0_8, w0_9, .int g0_10, w0_11, w0_12])), (a1, .inl (cI, 99, .inl f1)), (a3, .inl (cI, 594, .inl f3))] s.heap := hP
  generalize hHe : s.heap = H at hP ⊢
  have hS : va_S A s.heap H [] := by rw [hHe]; exact va_S.rf
  have hl := lv_entry ([.ref a0]) (n := 2) (Nat.le_of_ble_eq_true rfl)
  rw [lg_entry_eq]
  generalize (lg_sl ([.ref a0]) ++ List.replicate (2 - (lg_sl ([.ref a0])).length) Slot.unset).toArray = ls at hl ⊢
  have hl : lv_has ls 2 [(0, .ref a0)] := hl
  unfold s_X5_undo at hsp
  refine lv_aload_n hx hb dX5_undo_0 rfl (lv_at hl 0 rfl) ?_
  refine va_get (D := D) (ci := 5) (v := .int g0_10) (C := RX5) (T := TX5) (N := 13) hx hb hts hi_X5 hown hK hP 0 rfl rfl 10 (by decide) hf_43 (fun _ h9 => h9) rfl dX5_undo_1 ?_
  refine lv_if_ne (tgt := 10) hx hb dX5_undo_4 (by decide) (fun c1 => ?_) (fun c1 => ?_)
  · have hsp := itF hsp c1
    refine lv_aload_n hx hb dX5_undo_10 rfl (lv_at hl 0 rfl) ?_
    refine lv_dup hx hb dX5_undo_11 rfl ?_
    refine va_get (D := D) (ci := 5) (v := .int g0_10) (C := RX5) (T := TX5) (N := 13) hx hb hts hi_X5 hown hK hP 0 rfl rfl 10 (by decide) hf_43 (fun _ h9 => h9) rfl dX5_undo_12 ?_
    refine lv_iconst (v := 1) hx hb dX5_undo_15 (by decide) ?_
    refine lv_isub hx hb dX5_undo_16 ?_
    obtain ⟨x2, ex2, hsp⟩ := nmE hsp
    refine r_top ex2 ?_
    refine va_put (D := D) (ci := 5) (v := .int x2) (ty := .int) (C := RX5) (T := TX5) (N := 13) hx hb hts hi_X5 tyX5 tyX5_ok nmX5 hown hK hP hD hS 0 rfl rfl 10 (by decide) hf_43 (fun _ h9 => h9) rfl (by decide +kernel) rfl rfl (Nat.le_of_ble_eq_true rfl) dX5_undo_17 (fun H locs hP hD hS => ?_)
    have hP : va_P D vwCl [(a0, .inr (5, [.ref a1, w0_1, .ref a3, w0_3, w0_4, w0_5, w0_6, w0_7, w0_8, w0_9, .int x2, w0_11, w0_12])), (a1, .inl (cI, 99, .inl f1)), (a3, .inl (cI, 594, .inl f3))] H := hP
    have hD : va_D A [(a0, .inr (5, [.ref a1, w0_1, .ref a3, w0_3, w0_4, w0_5, w0_6, w0_7, w0_8, w0_9, .int x2, w0_11, w0_12])), (a1, .inl (cI, 99, .inl f1)), (a3, .inl (cI, 594, .inl f3))] := hD
    refine lv_iconst (v := 0) hx hb dX5_undo_20 (by decide) ?_
    refine lv_istore_n (lv' := [(1, .int 0), (0, .ref a0)]) hx hb dX5_undo_21 rfl hl (by decide) rfl (fun ls hl => ?_)
    refine ex_rule (D := D) (K := s_X5_undo_X1 x2) (P := fun (t1 : (Nat → Int32)) => [(a0, .inr (5, [.ref a1, w0_1, .ref a3, w0_3, w0_4, w0_5, w0_6, w0_7, w0_8, w0_9, .int x2, w0_11, w0_12])), (a1, .inl (cI, 99, .inl t1)), (a3, .inl (cI, 594, .inl f3))]) (L := fun (t1 : (Nat → Int32)) => [(0, .ref a0)]) (nL := 2) (pcx := 54) (res := res) (A := A) (H0 := s.heap) ?_ (fun hx1 => ?_)
    · intro t1 H locs hsp hP hD hS ls hl
      obtain ⟨y5, rfl⟩ : ∃ z, z = t1 := ⟨_, rfl⟩
      unfold s_X5_undo_X1 at hsp; try dsimp only at hsp
      have hP : va_P D vwCl [(a0, .inr (5, [.ref a1, w0_1, .ref a3, w0_3, w0_4, w0_5, w0_6, w0_7, w0_8, w0_9, .int x2, w0_11, w0_12])), (a1, .inl (cI, 99, .inl y5)), (a3, .inl (cI, 594, .inl f3))] H := hP
      have hD : va_D A [(a0, .inr (5, [.ref a1, w0_1, .ref a3, w0_3, w0_4, w0_5, w0_6, w0_7, w0_8, w0_9, .int x2, w0_11, w0_12])), (a1, .inl (cI, 99, .inl y5)), (a3, .inl (cI, 594, .inl f3))] := hD
      have hl : lv_has ls 2 [(0, .ref a0)] := hl
      refine lv_aload_n hx hb dX5_undo_54 rfl (lv_at hl 0 rfl) ?_
      refine va_get (D := D) (ci := 5) (v := .int x2) (C := RX5) (T := TX5) (N := 13) hx hb hts hi_X5 hown hK hP 0 rfl rfl 10 (by decide) hf_43 (fun _ h9 => h9) rfl dX5_undo_55 ?_
      have hres := Option.some.inj hsp
      subst hres
      exact W.iret (v := x2) hx hb hr (fun t ht hW => ⟨⟨x2, (), rfl, rfl, P_at ht hP⟩, hS.F ht⟩) hS.2.2 dX5_undo_58
    have hl := lv_sub hl (l' := [(0, .ref a0), (1, .int 0)]) [1, 0] rfl
    refine lp_rule (D := D) (F := s_X5_undo_L1 f3 x2 (s_X5_undo_X1 x2)) (P := fun (tv : Int32 × (Nat → Int32)) => [(a0, .inr (5, [.ref a1, w0_1, .ref a3, w0_3, w0_4, w0_5, w0_6, w0_7, w0_8, w0_9, .int x2, w0_11, w0_12])), (a1, .inl (cI, 99, .inl tv.2)), (a3, .inl (cI, 594, .inl f3))]) (L := fun (tv : Int32 × (Nat → Int32)) => [(0, .ref a0), (1, .int tv.1)]) (nL := 2) (res := res) (A := A) (H0 := s.heap) (fun _ => rfl) ?_ 1000 (0, f1) _ _ hsp hP hD hS _ hl
    · intro n1 ih1 tv H locs hsp hP hD hS ls hl
      obtain ⟨x3, y4⟩ := tv
      have hsp : s_X5_undo_B1  f3 x2 (s_X5_undo_X1 x2) (s_X5_undo_L1 f3 x2 (s_X5_undo_X1 x2) n1) x3 y4 = some res := hsp
      unfold s_X5_undo_B1 at hsp
      have hP : va_P D vwCl [(a0, .inr (5, [.ref a1, w0_1, .ref a3, w0_3, w0_4, w0_5, w0_6, w0_7, w0_8, w0_9, .int x2, w0_11, w0_12])), (a1, .inl (cI, 99, .inl y4)), (a3, .inl (cI, 594, .inl f3))] H := hP
      have hD : va_D A [(a0, .inr (5, [.ref a1, w0_1, .ref a3, w0_3, w0_4, w0_5, w0_6, w0_7, w0_8, w0_9, .int x2, w0_11, w0_12])), (a1, .inl (cI, 99, .inl y4)), (a3, .inl (cI, 594, .inl f3))] := hD
      have hl : lv_has ls 2 [(0, .ref a0), (1, .int x3)] := hl
      refine lv_iload_n hx hb dX5_undo_22 rfl (lv_at hl 1 rfl) ?_
      refine lv_bipush (v := 99) hx hb dX5_undo_23 (by decide) ?_
      refine lv_icmp_ge (tgt := 54) hx hb dX5_undo_25 (by decide) (fun c6 => ?_) (fun c6 => ?_)
      · have hsp := itT hsp c6
        exact hx1 y4 _ _ hsp hP hD hS _ (lv_sub hl [0] rfl)
      have hsp := itF hsp c6
      refine lv_aload_n hx hb dX5_undo_28 rfl (lv_at hl 0 rfl) ?_
      refine va_get (D := D) (ci := 5) (v := .ref a1) (C := RX5) (T := TX5) (N := 13) hx hb hts hi_X5 hown hK hP 0 rfl rfl 0 (by decide) hf_7 (fun _ h9 => h9) rfl dX5_undo_29 ?_
      refine lv_iload_n hx hb dX5_undo_32 rfl (lv_at hl 1 rfl) ?_
      refine lv_aload_n hx hb dX5_undo_33 rfl (lv_at hl 0 rfl) ?_
      refine va_get (D := D) (ci := 5) (v := .ref a3) (C := RX5) (T := TX5) (N := 13) hx hb hts hi_X5 hown hK hP 0 rfl rfl 2 (by decide) hf_16 (fun _ h9 => h9) rfl dX5_undo_34 ?_
      refine lv_bipush (v := 99) hx hb dX5_undo_37 (by decide) ?_
      refine lv_aload_n hx hb dX5_undo_39 rfl (lv_at hl 0 rfl) ?_
      refine va_get (D := D) (ci := 5) (v := .int x2) (C := RX5) (T := TX5) (N := 13) hx hb hts hi_X5 hown hK hP 0 rfl rfl 10 (by decide) hf_43 (fun _ h9 => h9) rfl dX5_undo_40 ?_
      refine lv_imul hx hb dX5_undo_43 ?_
      refine lv_iload_n hx hb dX5_undo_44 rfl (lv_at hl 1 rfl) ?_
      refine lv_iadd hx hb dX5_undo_45 ?_
      obtain ⟨x7, ex7, hnx7, hsp⟩ := ldE hsp
      refine r_iald hx hb hK hP 2 0 rfl rfl ex7 hnx7 dX5_undo_46 ?_
      obtain ⟨y8, ey8, hny8, hsp⟩ := stoE hsp
      refine r_iast (ws' := [(a0, .inr (5, [.ref a1, w0_1, .ref a3, w0_3, w0_4, w0_5, w0_6, w0_7, w0_8, w0_9, .int x2, w0_11, w0_12])), (a1, .inl (cI, 99, .inl y8)), (a3, .inl (cI, 594, .inl f3))]) hx hb hK hP hD hS 1 0 rfl rfl ey8 hny8 rfl dX5_undo_47 (fun H locs hP hD hS => ?_)
      obtain ⟨x9, ex9, hsp⟩ := nmE hsp
      refine lv_iinc (k := 1) (v := x9) (lv' := [(1, .int x9), (0, .ref a0)]) hx hb dX5_undo_48 hl rfl (by rw [ex9]; rfl) (by decide) rfl (fun ls hl => ?_)
      refine lv_goto (tgt := 22) hx hb dX5_undo_51 (by decide) ?_
      exact ih1 (x9, y8) _ _ hsp hP hD hS _ (lv_sub hl [1, 0] rfl)
  have hsp := itT hsp c1
  refine lv_bipush (v := (-5)) hx hb dX5_undo_7 (by decide) ?_
  have hres := Option.some.inj hsp
  subst hres
  exact W.iret (v := (-5)) hx hb hr (fun t ht hW => ⟨⟨(-5), (), rfl, rfl, P_at ht hP⟩, hS.F ht⟩) hS.2.2 dX5_undo_9

theorem nd_X5_want : yX5_want.cls = RX5 ∧ yX5_want.cls ≠ "java/lang/invoke/MethodHandle" ∧ yX5_want.cls ≠ "java/lang/invoke/VarHandle" ∧ (parseMethodDescriptor yX5_want.desc).map (fun d => d.parameters.length) = some 4 := by decide +kernel
set_option maxHeartbeats 8000000 in
set_option maxRecDepth 100000 in
theorem k_X5_want (l : Launch) (D : va_G) (cI cZ cC cS : ClassId) (sz : Nat) (a0 a1 a2 a3 a7 : Nat) (w0_3 : Value) (w0_4 : Value) (w0_5 : Value) (w0_7 : Value) (w0_8 : Value) (w0_9 : Value) (g0_10 : Int32) (w0_11 : Value) (w0_12 : Value) (f1 : Nat → Int32) (f2 : Nat → Int32) (f3 : Nat → Int32) (f7 : Nat → Int32) (u1 : Int32) (u2 : Int32) (u3 : Int32) (u4 : Int32) (res : Int32 × Int32 × (Nat → Int32) × (Nat → Int32) × (Nat → Int32) × (Nat → Int32)) (hsp : s_X5_want g0_10 f1 f2 f3 f7 u1 u2 u3 u4 = some res) : Met l yX5_want wsX5_want ({ frames := 4, cells := 0, slots := 0, locals := 88 }) (va_Pc [.ref a0, .int u1, .int u2, .int u3, .int u4] (PB D cI cZ cC cS [(a0, .inr (5, [.ref a1, .ref a2, .ref a3, w0_3, w0_4, w0_5, .ref a7, w0_7, w0_8, w0_9, .int g0_10, w0_11, w0_12])), (a1, .inl (cI, 99, .inl f1)), (a2, .inl (cI, 99, .inl f2)), (a3, .inl (cI, 594, .inl f3)), (a7, .inl (cI, 3, .inl f7))] sz)) (va_Qi (fun r (_ : Unit) => r = res.1) (fun _ t => va_P D vwCl [(a0, .inr (5, [.ref a1, .ref a2, .ref a3, w0_3, w0_4, w0_5, .ref a7, w0_7, w0_8, w0_9, .int res.2.1, w0_11, w0_12])), (a1, .inl (cI, 99, .inl res.2.2.1)), (a2, .inl (cI, 99, .inl res.2.2.2.1)), (a3, .inl (cI, 594, .inl res.2.2.2.2.1)), (a7, .inl (cI, 3, .inl res.2.2.2.2.2))] t.heap) (va_A [(a0, .inr (5, [.ref a1, .ref a2, .ref a3, w0_3, w0_4, w0_5, .ref a7, w0_7, w0_8, w0_9, .int g0_10, w0_11, w0_12])), (a1, .inl (cI, 99, .inl f1)), (a2, .inl (cI, 99, .inl f2)), (a3, .inl (cI, 594, .inl f3)), (a7, .inl (cI, 3, .inl f7))] sz)) 0 0 (va_A [(a0, .inr (5, [.ref a1, .ref a2, .ref a3, w0_3, w0_4, w0_5, .ref a7, w0_7, w0_8, w0_9, .int g0_10, w0_11, w0_12])), (a1, .inl (cI, 99, .inl f1)), (a2, .inl (cI, 99, .inl f2)), (a3, .inl (cI, 594, .inl f3)), (a7, .inl (cI, 3, .inl f7))] sz) := by
  refine Met.ofW (cc := cX5_want) (maxL := 5) (ret := (some .int)) (by decide) rfl ?_
  intro p e s m args below meth c s₁ B hml hv
  obtain ⟨rfl, hsz, hP, hD0, hKU⟩ := hv
  have hx := B.exec
  have hb := B.bytes
  have hr := B.returns
  have hts := atoms_spec (ws := wsX5_want) B.pre
  have hown : s.vm.findClass RX5 = some m.cls := findClass_of_methodNamed B.named
  have hlocks := B.notSynchronized
  have hK := hKU.1
  have hf_7 := hts (.fieldLink RX5 7 "ThinnedPotsModel" "s" "[I") (by decide +kernel)
  have hi_X5 : ∀ w ∈ u_ws RX5 TX5 13, w ∈ wsX5_want := by decide +kernel
  subst hsz
  have hD := hD0.self (sz := s.heap.size)
  generalize hAe : va_A [(a0, .inr (5, [.ref a1, .ref a2, .ref a3, w0_3, w0_4, w0_5, .ref a7, w0_7, w0_8, w0_9, .int g0_10, w0_11, w0_12])), (a1, .inl (cI, 99, .inl f1)), (a2, .inl (cI, 99, .inl f2)), (a3, .inl (cI, 594, .inl f3)), (a7, .inl (cI, 3, .inl f7))] s.heap.size = A at hD ⊢
  have hA : ∀ q : Nat, s.heap.size ≤ q → A q := fun q h => by rw [← hAe]; exact Or.inr h
  have hP : va_P D vwCl [(a0, .inr (5, [.ref a1, .ref a2, .ref a3, w0_3, w0_4, w0_5, .ref a7, w0_7, w0_8, w0_9, .int g0_10, w0_11, w0_12])), (a1, .inl (cI, 99, .inl f1)), (a2, .inl (cI, 99, .inl f2)), (a3, .inl (cI, 594, .inl f3)), (a7, .inl (cI, 3, .inl f7))] s.heap := hP
  generalize hHe : s.heap = H at hP ⊢
  have hS : va_S A s.heap H [] := by rw [hHe]; exact va_S.rf
  have hl := lv_entry ([.ref a0, .int u1, .int u2, .int u3, .int u4]) (n := 5) (Nat.le_of_ble_eq_true rfl)
  rw [lg_entry_eq]
  generalize (lg_sl ([.ref a0, .int u1, .int u2, .int u3, .int u4]) ++ List.replicate (5 - (lg_sl ([.ref a0, .int u1, .int u2, .int u3, .int u4])).length) Slot.unset).toArray = ls at hl ⊢
  have hl : lv_has ls 5 [(0, .ref a0), (1, .int u1), (2, .int u2), (3, .int u3), (4, .int u4)] := hl
  unfold s_X5_want at hsp
  refine lv_iload_n hx hb dX5_want_0 rfl (lv_at hl 1 rfl) ?_
  obtain ⟨r1, hcr1, hsp⟩ := clE hsp
  refine call_z (w1 := []) (ws' := [(a0, .inr (5, [.ref a1, .ref a2, .ref a3, w0_3, w0_4, w0_5, .ref a7, w0_7, w0_8, w0_9, .int g0_10, w0_11, w0_12])), (a1, .inl (cI, 99, .inl f1)), (a2, .inl (cI, 99, .inl f2)), (a3, .inl (cI, 594, .inl f3)), (a7, .inl (cI, 3, .inl f7))]) (va_runS (As := [.int u1]) (rest := []) ⟨hx, hb, hml, hown, hts⟩ (k_X5_isPanel l D cI cZ cC cS H.size u1 r1 hcr1) (va_cwS 1 hts gX5_want_X5_isPanel rfl rfl rfl nd_X5_isPanel.2 ⟨Nat.le_of_ble_eq_true rfl, Nat.le_of_ble_eq_true rfl⟩) (PB.preS hKU hP hD [] rfl rfl) rfl rfl hl.1 rfl (lv_room (Nat.le_of_ble_eq_true rfl)) dX5_want_1 ⟨Nat.zero_le _, Nat.zero_le _⟩) hS hP hD hA [] rfl rfl (by first | (simp only [wset, List.set_cons_zero, List.set_cons_succ]; done) | rfl) rfl (fun H locs hP hD hS hzr1 => ?_)
  refine lv_if_ne (tgt := 9) hx hb dX5_want_4 (by decide) (fun c2 => ?_) (fun c2 => ?_)
  · have hsp := itF hsp c2
    refine lv_iload_n hx hb dX5_want_9 rfl (lv_at hl 2 rfl) ?_
    refine lv_iconst (v := 0) hx hb dX5_want_10 (by decide) ?_
    refine lv_bipush (v := 100) hx hb dX5_want_11 (by decide) ?_
    obtain ⟨r3, hcr3, hsp⟩ := clE hsp
    refine call_z (w1 := []) (ws' := [(a0, .inr (5, [.ref a1, .ref a2, .ref a3, w0_3, w0_4, w0_5, .ref a7, w0_7, w0_8, w0_9, .int g0_10, w0_11, w0_12])), (a1, .inl (cI, 99, .inl f1)), (a2, .inl (cI, 99, .inl f2)), (a3, .inl (cI, 594, .inl f3)), (a7, .inl (cI, 3, .inl f7))]) (va_runS (As := [.int u2, .int 0, .int 100]) (rest := []) ⟨hx, hb, hml, hown, hts⟩ (k_X5_in l D cI cZ cC cS H.size u2 0 100 r3 hcr3) (va_cwS 3 hts gX5_want_X5_in rfl rfl rfl nd_X5_in.2 ⟨Nat.le_of_ble_eq_true rfl, Nat.le_of_ble_eq_true rfl⟩) (PB.preS hKU hP hD [] rfl rfl) rfl rfl hl.1 rfl (lv_room (Nat.le_of_ble_eq_true rfl)) dX5_want_13 ⟨Nat.zero_le _, Nat.zero_le _⟩) hS hP hD hA [] rfl rfl (by first | (simp only [wset, List.set_cons_zero, List.set_cons_succ]; done) | rfl) rfl (fun H locs hP hD hS hzr3 => ?_)
    refine lv_if_eq (tgt := 40) hx hb dX5_want_16 (by decide) (fun c4 => ?_) (fun c4 => ?_)
    · have hsp := itT hsp c4
      refine lv_bipush (v := (-2)) hx hb dX5_want_40 (by decide) ?_
      have hres := Option.some.inj hsp
      subst hres
      exact W.iret (v := (-2)) hx hb hr (fun t ht hW => ⟨⟨(-2), (), rfl, rfl, P_at ht hP⟩, hS.F ht⟩) hS.2.2 dX5_want_42
    have hsp := itF hsp c4
    refine lv_iload_n hx hb dX5_want_19 rfl (lv_at hl 3 rfl) ?_
    refine lv_iconst (v := 0) hx hb dX5_want_20 (by decide) ?_
    refine lv_bipush (v := 100) hx hb dX5_want_21 (by decide) ?_
    obtain ⟨r5, hcr5, hsp⟩ := clE hsp
    refine call_z (w1 := []) (ws' := [(a0, .inr (5, [.ref a1, .ref a2, .ref a3, w0_3, w0_4, w0_5, .ref a7, w0_7, w0_8, w0_9, .int g0_10, w0_11, w0_12])), (a1, .inl (cI, 99, .inl f1)), (a2, .inl (cI, 99, .inl f2)), (a3, .inl (cI, 594, .inl f3)), (a7, .inl (cI, 3, .inl f7))]) (va_runS (As := [.int u3, .int 0, .int 100]) (rest := []) ⟨hx, hb, hml, hown, hts⟩ (k_X5_in l D cI cZ cC cS H.size u3 0 100 r5 hcr5) (va_cwS 3 hts gX5_want_X5_in rfl rfl rfl nd_X5_in.2 ⟨Nat.le_of_ble_eq_true rfl, Nat.le_of_ble_eq_true rfl⟩) (PB.preS hKU hP hD [] rfl rfl) rfl rfl hl.1 rfl (lv_room (Nat.le_of_ble_eq_true rfl)) dX5_want_23 ⟨Nat.zero_le _, Nat.zero_le _⟩) hS hP hD hA [] rfl rfl (by first | (simp only [wset, List.set_cons_zero, List.set_cons_succ]; done) | rfl) rfl (fun H locs hP hD hS hzr5 => ?_)
    refine lv_if_eq (tgt := 40) hx hb dX5_want_26 (by decide) (fun c6 => ?_) (fun c6 => ?_)
    · have hsp := itT hsp c6
      refine lv_bipush (v := (-2)) hx hb dX5_want_40 (by decide) ?_
      have hres := Option.some.inj hsp
      subst hres
      exact W.iret (v := (-2)) hx hb hr (fun t ht hW => ⟨⟨(-2), (), rfl, rfl, P_at ht hP⟩, hS.F ht⟩) hS.2.2 dX5_want_42
    have hsp := itF hsp c6
    refine lv_iload hx hb dX5_want_29 (lv_at hl 4 rfl) ?_
    refine lv_iconst (v := 0) hx hb dX5_want_31 (by decide) ?_
    refine lv_bipush (v := 100) hx hb dX5_want_32 (by decide) ?_
    obtain ⟨r7, hcr7, hsp⟩ := clE hsp
    refine call_z (w1 := []) (ws' := [(a0, .inr (5, [.ref a1, .ref a2, .ref a3, w0_3, w0_4, w0_5, .ref a7, w0_7, w0_8, w0_9, .int g0_10, w0_11, w0_12])), (a1, .inl (cI, 99, .inl f1)), (a2, .inl (cI, 99, .inl f2)), (a3, .inl (cI, 594, .inl f3)), (a7, .inl (cI, 3, .inl f7))]) (va_runS (As := [.int u4, .int 0, .int 100]) (rest := []) ⟨hx, hb, hml, hown, hts⟩ (k_X5_in l D cI cZ cC cS H.size u4 0 100 r7 hcr7) (va_cwS 3 hts gX5_want_X5_in rfl rfl rfl nd_X5_in.2 ⟨Nat.le_of_ble_eq_true rfl, Nat.le_of_ble_eq_true rfl⟩) (PB.preS hKU hP hD [] rfl rfl) rfl rfl hl.1 rfl (lv_room (Nat.le_of_ble_eq_true rfl)) dX5_want_34 ⟨Nat.zero_le _, Nat.zero_le _⟩) hS hP hD hA [] rfl rfl (by first | (simp only [wset, List.set_cons_zero, List.set_cons_succ]; done) | rfl) rfl (fun H locs hP hD hS hzr7 => ?_)
    refine lv_if_ne (tgt := 43) hx hb dX5_want_37 (by decide) (fun c8 => ?_) (fun c8 => ?_)
    · have hsp := itF hsp c8
      refine lv_aload_n hx hb dX5_want_43 rfl (lv_at hl 0 rfl) ?_
      obtain ⟨r9, hcr9, hsp⟩ := clE hsp
      refine call_v (w1 := [(a0, .inr (5, [.ref a1, .ref a2, .ref a3, w0_3, w0_4, w0_5, .ref a7, w0_7, w0_8, w0_9, .int g0_10, w0_11, w0_12])), (a1, .inl (cI, 99, .inl f1)), (a2, .inl (cI, 99, .inl r9))]) (ws' := [(a0, .inr (5, [.ref a1, .ref a2, .ref a3, w0_3, w0_4, w0_5, .ref a7, w0_7, w0_8, w0_9, .int g0_10, w0_11, w0_12])), (a1, .inl (cI, 99, .inl f1)), (a2, .inl (cI, 99, .inl r9)), (a3, .inl (cI, 594, .inl f3)), (a7, .inl (cI, 3, .inl f7))]) (va_runV (As := []) (rest := []) ⟨hx, hb, hml, hown, hts⟩ (k_X5_hold l D cI cZ cC cS H.size a0 a1 a2 (.ref a3) (w0_3) (w0_4) (w0_5) (.ref a7) (w0_7) (w0_8) (w0_9) (.int g0_10) (w0_11) (w0_12) f1 f2 r9 hcr9) (cwV 0 hts gX5_want_X5_hold rfl rfl rfl nd_X5_hold ⟨Nat.le_of_ble_eq_true rfl, Nat.le_of_ble_eq_true rfl⟩) (PB.preV (ci := 5) (q0 := 0) hKU hP hD [0, 1, 2] rfl rfl rfl rfl) rfl rfl hl.1 rfl (lv_room (Nat.le_of_ble_eq_true rfl)) dX5_want_44 ⟨Nat.zero_le _, Nat.zero_le _⟩) hS hP hD hA [0, 1, 2] rfl rfl (by first | (simp only [wset, List.set_cons_zero, List.set_cons_succ]; done) | rfl) rfl (fun H locs hP hD hS => ?_)
      refine lv_aload_n hx hb dX5_want_47 rfl (lv_at hl 0 rfl) ?_
      refine va_get (D := D) (ci := 5) (v := .ref a1) (C := RX5) (T := TX5) (N := 13) hx hb hts hi_X5 hown hK hP 0 rfl rfl 0 (by decide) hf_7 (fun _ h9 => h9) rfl dX5_want_48 ?_
      refine lv_iload_n hx hb dX5_want_51 rfl (lv_at hl 1 rfl) ?_
      obtain ⟨r10, hcr10, hsp⟩ := clE hsp
      refine call_i (w1 := []) (ws' := [(a0, .inr (5, [.ref a1, .ref a2, .ref a3, w0_3, w0_4, w0_5, .ref a7, w0_7, w0_8, w0_9, .int g0_10, w0_11, w0_12])), (a1, .inl (cI, 99, .inl f1)), (a2, .inl (cI, 99, .inl r9)), (a3, .inl (cI, 594, .inl f3)), (a7, .inl (cI, 3, .inl f7))]) (va_runS (As := [.int u1]) (rest := [.ref a1]) ⟨hx, hb, hml, hown, hts⟩ (k_X5_n l D cI cZ cC cS H.size u1 r10 hcr10) (va_cwS 1 hts gX5_want_X5_n rfl rfl rfl nd_X5_n.2 ⟨Nat.le_of_ble_eq_true rfl, Nat.le_of_ble_eq_true rfl⟩) (PB.preS hKU hP hD [] rfl rfl) rfl rfl hl.1 rfl (lv_room (Nat.le_of_ble_eq_true rfl)) dX5_want_52 ⟨Nat.zero_le _, Nat.zero_le _⟩) hS hP hD hA [] rfl rfl (by first | (simp only [wset, List.set_cons_zero, List.set_cons_succ]; done) | rfl) rfl (fun H locs hP hD hS => ?_)
      refine lv_iload_n hx hb dX5_want_55 rfl (lv_at hl 2 rfl) ?_
      obtain ⟨y11, ey11, hny11, hsp⟩ := stoE hsp
      refine r_iast (ws' := [(a0, .inr (5, [.ref a1, .ref a2, .ref a3, w0_3, w0_4, w0_5, .ref a7, w0_7, w0_8, w0_9, .int g0_10, w0_11, w0_12])), (a1, .inl (cI, 99, .inl y11)), (a2, .inl (cI, 99, .inl r9)), (a3, .inl (cI, 594, .inl f3)), (a7, .inl (cI, 3, .inl f7))]) hx hb hK hP hD hS 1 0 rfl rfl ey11 hny11 rfl dX5_want_56 (fun H locs hP hD hS => ?_)
      refine lv_aload_n hx hb dX5_want_57 rfl (lv_at hl 0 rfl) ?_
      refine va_get (D := D) (ci := 5) (v := .ref a1) (C := RX5) (T := TX5) (N := 13) hx hb hts hi_X5 hown hK hP 0 rfl rfl 0 (by decide) hf_7 (fun _ h9 => h9) rfl dX5_want_58 ?_
      refine lv_iload_n hx hb dX5_want_61 rfl (lv_at hl 1 rfl) ?_
      obtain ⟨r12, hcr12, hsp⟩ := clE hsp
      refine call_i (w1 := []) (ws' := [(a0, .inr (5, [.ref a1, .ref a2, .ref a3, w0_3, w0_4, w0_5, .ref a7, w0_7, w0_8, w0_9, .int g0_10, w0_11, w0_12])), (a1, .inl (cI, 99, .inl y11)), (a2, .inl (cI, 99, .inl r9)), (a3, .inl (cI, 594, .inl f3)), (a7, .inl (cI, 3, .inl f7))]) (va_runS (As := [.int u1]) (rest := [.ref a1]) ⟨hx, hb, hml, hown, hts⟩ (k_X5_n l D cI cZ cC cS H.size u1 r12 hcr12) (va_cwS 1 hts gX5_want_X5_n rfl rfl rfl nd_X5_n.2 ⟨Nat.le_of_ble_eq_true rfl, Nat.le_of_ble_eq_true rfl⟩) (PB.preS hKU hP hD [] rfl rfl) rfl rfl hl.1 rfl (lv_room (Nat.le_of_ble_eq_true rfl)) dX5_want_62 ⟨Nat.zero_le _, Nat.zero_le _⟩) hS hP hD hA [] rfl rfl (by first | (simp only [wset, List.set_cons_zero, List.set_cons_succ]; done) | rfl) rfl (fun H locs hP hD hS => ?_)
      refine lv_iconst (v := 1) hx hb dX5_want_65 (by decide) ?_
      refine lv_iadd hx hb dX5_want_66 ?_
      refine lv_iload_n hx hb dX5_want_67 rfl (lv_at hl 3 rfl) ?_
      obtain ⟨y13, ey13, hny13, hsp⟩ := stoE hsp
      refine r_iast (ws' := [(a0, .inr (5, [.ref a1, .ref a2, .ref a3, w0_3, w0_4, w0_5, .ref a7, w0_7, w0_8, w0_9, .int g0_10, w0_11, w0_12])), (a1, .inl (cI, 99, .inl y13)), (a2, .inl (cI, 99, .inl r9)), (a3, .inl (cI, 594, .inl f3)), (a7, .inl (cI, 3, .inl f7))]) hx hb hK hP hD hS 1 0 rfl rfl ey13 hny13 rfl dX5_want_68 (fun H locs hP hD hS => ?_)
      refine lv_aload_n hx hb dX5_want_69 rfl (lv_at hl 0 rfl) ?_
      refine va_get (D := D) (ci := 5) (v := .ref a1) (C := RX5) (T := TX5) (N := 13) hx hb hts hi_X5 hown hK hP 0 rfl rfl 0 (by decide) hf_7 (fun _ h9 => h9) rfl dX5_want_70 ?_
      refine lv_iload_n hx hb dX5_want_73 rfl (lv_at hl 1 rfl) ?_
      obtain ⟨r14, hcr14, hsp⟩ := clE hsp
      refine call_i (w1 := []) (ws' := [(a0, .inr (5, [.ref a1, .ref a2, .ref a3, w0_3, w0_4, w0_5, .ref a7, w0_7, w0_8, w0_9, .int g0_10, w0_11, w0_12])), (a1, .inl (cI, 99, .inl y13)), (a2, .inl (cI, 99, .inl r9)), (a3, .inl (cI, 594, .inl f3)), (a7, .inl (cI, 3, .inl f7))]) (va_runS (As := [.int u1]) (rest := [.ref a1]) ⟨hx, hb, hml, hown, hts⟩ (k_X5_n l D cI cZ cC cS H.size u1 r14 hcr14) (va_cwS 1 hts gX5_want_X5_n rfl rfl rfl nd_X5_n.2 ⟨Nat.le_of_ble_eq_true rfl, Nat.le_of_ble_eq_true rfl⟩) (PB.preS hKU hP hD [] rfl rfl) rfl rfl hl.1 rfl (lv_room (Nat.le_of_ble_eq_true rfl)) dX5_want_74 ⟨Nat.zero_le _, Nat.zero_le _⟩) hS hP hD hA [] rfl rfl (by first | (simp only [wset, List.set_cons_zero, List.set_cons_succ]; done) | rfl) rfl (fun H locs hP hD hS => ?_)
      refine lv_iconst (v := 2) hx hb dX5_want_77 (by decide) ?_
      refine lv_iadd hx hb dX5_want_78 ?_
      refine lv_iload hx hb dX5_want_79 (lv_at hl 4 rfl) ?_
      obtain ⟨y15, ey15, hny15, hsp⟩ := stoE hsp
      refine r_iast (ws' := [(a0, .inr (5, [.ref a1, .ref a2, .ref a3, w0_3, w0_4, w0_5, .ref a7, w0_7, w0_8, w0_9, .int g0_10, w0_11, w0_12])), (a1, .inl (cI, 99, .inl y15)), (a2, .inl (cI, 99, .inl r9)), (a3, .inl (cI, 594, .inl f3)), (a7, .inl (cI, 3, .inl f7))]) hx hb hK hP hD hS 1 0 rfl rfl ey15 hny15 rfl dX5_want_81 (fun H locs hP hD hS => ?_)
      refine lv_aload_n hx hb dX5_want_82 rfl (lv_at hl 0 rfl) ?_
      refine lv_aload_n hx hb dX5_want_83 rfl (lv_at hl 0 rfl) ?_
      obtain ⟨r16, hcr16, hsp⟩ := clE hsp
      refine call_i (w1 := [(a0, .inr (5, [.ref a1, .ref a2, .ref a3, w0_3, w0_4, w0_5, .ref a7, w0_7, w0_8, w0_9, .int g0_10, w0_11, w0_12])), (a1, .inl (cI, 99, .inl y15)), (a7, .inl (cI, 3, .inl r16.2))]) (ws' := [(a0, .inr (5, [.ref a1, .ref a2, .ref a3, w0_3, w0_4, w0_5, .ref a7, w0_7, w0_8, w0_9, .int g0_10, w0_11, w0_12])), (a1, .inl (cI, 99, .inl y15)), (a2, .inl (cI, 99, .inl r9)), (a3, .inl (cI, 594, .inl f3)), (a7, .inl (cI, 3, .inl r16.2))]) (va_runV (As := []) (rest := [.ref a0]) ⟨hx, hb, hml, hown, hts⟩ (k_X5_well l D cI cZ cC cS H.size a0 a1 a7 (.ref a2) (.ref a3) (w0_3) (w0_4) (w0_5) (w0_7) (w0_8) (w0_9) (.int g0_10) (w0_11) (w0_12) y15 f7 r16 hcr16) (cwV 0 hts gX5_want_X5_well rfl rfl rfl nd_X5_well ⟨Nat.le_of_ble_eq_true rfl, Nat.le_of_ble_eq_true rfl⟩) (PB.preV (ci := 5) (q0 := 0) hKU hP hD [0, 1, 4] rfl rfl rfl rfl) rfl rfl hl.1 rfl (lv_room (Nat.le_of_ble_eq_true rfl)) dX5_want_84 ⟨Nat.zero_le _, Nat.zero_le _⟩) hS hP hD hA [0, 1, 4] rfl rfl (by first | (simp only [wset, List.set_cons_zero, List.set_cons_succ]; done) | rfl) rfl (fun H locs hP hD hS => ?_)
      obtain ⟨r17, hcr17, hsp⟩ := clE hsp
      refine call_i (w1 := [(a0, .inr (5, [.ref a1, .ref a2, .ref a3, w0_3, w0_4, w0_5, .ref a7, w0_7, w0_8, w0_9, .int r17.2.1, w0_11, w0_12])), (a2, .inl (cI, 99, .inl r9)), (a3, .inl (cI, 594, .inl r17.2.2))]) (ws' := [(a0, .inr (5, [.ref a1, .ref a2, .ref a3, w0_3, w0_4, w0_5, .ref a7, w0_7, w0_8, w0_9, .int r17.2.1, w0_11, w0_12])), (a1, .inl (cI, 99, .inl y15)), (a2, .inl (cI, 99, .inl r9)), (a3, .inl (cI, 594, .inl r17.2.2)), (a7, .inl (cI, 3, .inl r16.2))]) (va_runV (As := [.int r16.1]) (rest := []) ⟨hx, hb, hml, hown, hts⟩ (k_X5_recorded l D cI cZ cC cS H.size a0 a2 a3 (.ref a1) (w0_3) (w0_4) (w0_5) (.ref a7) (w0_7) (w0_8) (w0_9) g0_10 (w0_11) (w0_12) r9 f3 r16.1 r17 hcr17) (cwV 1 hts gX5_want_X5_recorded rfl rfl rfl nd_X5_recorded ⟨Nat.le_of_ble_eq_true rfl, Nat.le_of_ble_eq_true rfl⟩) (PB.preV (ci := 5) (q0 := 0) hKU hP hD [0, 2, 3] rfl rfl rfl rfl) rfl rfl hl.1 rfl (lv_room (Nat.le_of_ble_eq_true rfl)) dX5_want_87 ⟨Nat.zero_le _, Nat.zero_le _⟩) hS hP hD hA [0, 2, 3] rfl rfl (by first | (simp only [wset, List.set_cons_zero, List.set_cons_succ]; done) | rfl) rfl (fun H locs hP hD hS => ?_)
      have hres := Option.some.inj hsp
      subst hres
      exact W.iret (v := r17.1) hx hb hr (fun t ht hW => ⟨⟨r17.1, (), rfl, rfl, P_at ht hP⟩, hS.F ht⟩) hS.2.2 dX5_want_90
    have hsp := itT hsp c8
    refine lv_bipush (v := (-2)) hx hb dX5_want_40 (by decide) ?_
    have hres := Option.some.inj hsp
    subst hres
    exact W.iret (v := (-2)) hx hb hr (fun t ht hW => ⟨⟨(-2), (), rfl, rfl, P_at ht hP⟩, hS.F ht⟩) hS.2.2 dX5_want_42
  have hsp := itT hsp c2
  refine lv_iconst (v := (-1)) hx hb dX5_want_7 (by decide) ?_
  have hres := Option.some.inj hsp
  subst hres
  exact W.iret (v := (-1)) hx hb hr (fun t ht hW => ⟨⟨(-1), (), rfl, rfl, P_at ht hP⟩, hS.F ht⟩) hS.2.2 dX5_want_8

theorem nd_X5_wipe : yX5_wipe.cls = RX5 ∧ yX5_wipe.cls ≠ "java/lang/invoke/MethodHandle" ∧ yX5_wipe.cls ≠ "java/lang/invoke/VarHandle" ∧ (parseMethodDescriptor yX5_wipe.desc).map (fun d => d.parameters.length) = some 0 := by decide +kernel
set_option maxHeartbeats 8000000 in
set_option maxRecDepth 100000 in
theorem k_X5_wipe (l : Launch) (D : va_G) (cI cZ cC cS : ClassId) (sz : Nat) (a0 : Nat) (w0_0 : Value) (w0_1 : Value) (w0_2 : Value) (w0_3 : Value) (w0_4 : Value) (w0_5 : Value) (w0_6 : Value) (w0_7 : Value) (w0_8 : Value) (g0_9 : Int32) (w0_10 : Value) (w0_11 : Value) (w0_12 : Value) (res : Int32 × Int32) (hsp : s_X5_wipe g0_9 = some res) : Met l yX5_wipe wsX5_wipe ({ frames := 0, cells := 0, slots := 0, locals := 0 }) (va_Pc [.ref a0] (PB D cI cZ cC cS [(a0, .inr (5, [w0_0, w0_1, w0_2, w0_3, w0_4, w0_5, w0_6, w0_7, w0_8, .int g0_9, w0_10, w0_11, w0_12]))] sz)) (va_Qi (fun r (_ : Unit) => r = res.1) (fun _ t => va_P D vwCl [(a0, .inr (5, [w0_0, w0_1, w0_2, w0_3, w0_4, w0_5, w0_6, w0_7, w0_8, .int res.2, w0_10, w0_11, w0_12]))] t.heap) (va_A [(a0, .inr (5, [w0_0, w0_1, w0_2, w0_3, w0_4, w0_5, w0_6, w0_7, w0_8, .int g0_9, w0_10, w0_11, w0_12]))] sz)) 0 0 (va_A [(a0, .inr (5, [w0_0, w0_1, w0_2, w0_3, w0_4, w0_5, w0_6, w0_7, w0_8, .int g0_9, w0_10, w0_11, w0_12]))] sz) := by
  refine Met.ofW (cc := cX5_wipe) (maxL := 2) (ret := (some .int)) (by decide) rfl ?_
  intro p e s m args below meth c s₁ B hml hv
  obtain ⟨rfl, hsz, hP, hD0, hKU⟩ := hv
  have hx := B.exec
  have hb := B.bytes
  have hr := B.returns
  have hts := atoms_spec (ws := wsX5_wipe) B.pre
  have hown : s.vm.findClass RX5 = some m.cls := findClass_of_methodNamed B.named
  have hlocks := B.notSynchronized
  have hK := hKU.1
  have hf_126 := hts (.fieldLink RX5 126 "ThinnedPotsModel" "length" "I") (by decide +kernel)
  have hi_X5 : ∀ w ∈ u_ws RX5 TX5 13, w ∈ wsX5_wipe := by decide +kernel
  subst hsz
  have hD := hD0.self (sz := s.heap.size)
  generalize hAe : va_A [(a0, .inr (5, [w0_0, w0_1, w0_2, w0_3, w0_4, w0_5, w0_6, w0_7, w0_8, .int g0_9, w0_10, w0_11, w0_12]))] s.heap.size = A at hD ⊢
  have hA : ∀ q : Nat, s.heap.size ≤ q → A q := fun q h => by rw [← hAe]; exact Or.inr h
  have hP : va_P D vwCl [(a0, .inr (5, [w0_0, w0_1, w0_2, w0_3, w0_4, w0_5, w0_6, w0_7, w0_8, .int g0_9, w0_10, w0_11, w0_12]))] s.heap := hP
  generalize hHe : s.heap = H at hP ⊢
  have hS : va_S A s.heap H [] := by rw [hHe]; exact va_S.rf
  have hl := lv_entry ([.ref a0]) (n := 2) (Nat.le_of_ble_eq_true rfl)
  rw [lg_entry_eq]
  generalize (lg_sl ([.ref a0]) ++ List.replicate (2 - (lg_sl ([.ref a0])).length) Slot.unset).toArray = ls at hl ⊢
  have hl : lv_has ls 2 [(0, .ref a0)] := hl
  unfold s_X5_wipe at hsp
  refine lv_aload_n hx hb dX5_wipe_0 rfl (lv_at hl 0 rfl) ?_
  refine va_get (D := D) (ci := 5) (v := .int g0_9) (C := RX5) (T := TX5) (N := 13) hx hb hts hi_X5 hown hK hP 0 rfl rfl 9 (by decide) hf_126 (fun _ h9 => h9) rfl dX5_wipe_1 ?_
  refine lv_istore_n (lv' := [(1, .int g0_9), (0, .ref a0)]) hx hb dX5_wipe_4 rfl hl (by decide) rfl (fun ls hl => ?_)
  refine lv_aload_n hx hb dX5_wipe_5 rfl (lv_at hl 1 rfl) ?_
  refine lv_iconst (v := 0) hx hb dX5_wipe_6 (by decide) ?_
  refine va_put (D := D) (ci := 5) (v := .int 0) (ty := .int) (C := RX5) (T := TX5) (N := 13) hx hb hts hi_X5 tyX5 tyX5_ok nmX5 hown hK hP hD hS 0 rfl rfl 9 (by decide) hf_126 (fun _ h9 => h9) rfl (by decide +kernel) rfl rfl (Nat.le_of_ble_eq_true rfl) dX5_wipe_7 (fun H locs hP hD hS => ?_)
  have hP : va_P D vwCl [(a0, .inr (5, [w0_0, w0_1, w0_2, w0_3, w0_4, w0_5, w0_6, w0_7, w0_8, .int 0, w0_10, w0_11, w0_12]))] H := hP
  have hD : va_D A [(a0, .inr (5, [w0_0, w0_1, w0_2, w0_3, w0_4, w0_5, w0_6, w0_7, w0_8, .int 0, w0_10, w0_11, w0_12]))] := hD
  refine lv_iload_n hx hb dX5_wipe_10 rfl (lv_at hl 0 rfl) ?_
  have hres := Option.some.inj hsp
  subst hres
  exact W.iret (v := g0_9) hx hb hr (fun t ht hW => ⟨⟨g0_9, (), rfl, rfl, P_at ht hP⟩, hS.F ht⟩) hS.2.2 dX5_wipe_11
