theorem nd_X1_readKinds : yX1_readKinds.cls = RX1 ∧ yX1_readKinds.cls ≠ "java/lang/invoke/MethodHandle" ∧ yX1_readKinds.cls ≠ "java/lang/invoke/VarHandle" ∧ (parseMethodDescriptor yX1_readKinds.desc).map (fun d => d.parameters.length) = some 0 := by decide +kernel
set_option maxHeartbeats 8000000 in
set_option maxRecDepth 100000 in
theorem k_X1_readKinds (l : Launch) (D : va_G) (cI cZ cC cS : ClassId) (sz : Nat) (a0 a1 a2 a3 : Nat) (g0_1 : Int32) (g0_2 : Int32) (f1 : Nat → Int32) (w2_0 : Value) (w2_1 : Value) (w2_2 : Value) (w2_3 : Value) (f3 : Nat → Int32) (res : Int32 × Int32 × (Nat → Int32)) (hsp : s_X1_readKinds g0_1 g0_2 f1 f3 = some res) : Met l yX1_readKinds wsX1_readKinds ({ frames := 3, cells := 0, slots := 0, locals := 67 }) (va_Pc [.ref a0] (PB D cI cZ cC cS [(a0, .inr (1, [.ref a1, .int g0_1, .int g0_2, .ref a2])), (a1, .inl (cI, 60, .inl f1)), (a2, .inr (3, [w2_0, w2_1, w2_2, w2_3, .ref a3])), (a3, .inl (cI, 4, .inl f3))] sz)) (va_Qi (fun r (_ : Unit) => r = res.1 ∧ (res.1 = 0 ∨ res.1 = 1)) (fun _ t => va_P D vwCl [(a0, .inr (1, [.ref a1, .int g0_1, .int res.2.1, .ref a2])), (a1, .inl (cI, 60, .inl f1)), (a2, .inr (3, [w2_0, w2_1, w2_2, w2_3, .ref a3])), (a3, .inl (cI, 4, .inl res.2.2))] t.heap) (va_A [(a0, .inr (1, [.ref a1, .int g0_1, .int g0_2, .ref a2])), (a1, .inl (cI, 60, .inl f1)), (a2, .inr (3, [w2_0, w2_1, w2_2, w2_3, .ref a3])), (a3, .inl (cI, 4, .inl f3))] sz)) 0 0 (va_A [(a0, .inr (1, [.ref a1, .int g0_1, .int g0_2, .ref a2])), (a1, .inl (cI, 60, .inl f1)), (a2, .inr (3, [w2_0, w2_1, w2_2, w2_3, .ref a3])), (a3, .inl (cI, 4, .inl f3))] sz) := by
  refine Met.ofW (cc := cX1_readKinds) (maxL := 4) (ret := (some .boolean)) (by decide) rfl ?_
  intro p e s m args below meth c s₁ B hml hv
  obtain ⟨rfl, hsz, hP, hD0, hKU⟩ := hv
  have hx := B.exec
  have hb := B.bytes
  have hr := B.returns
  have hts := atoms_spec (ws := wsX1_readKinds) B.pre
  have hown : s.vm.findClass RX1 = some m.cls := findClass_of_methodNamed B.named
  have hlocks := B.notSynchronized
  have hK := hKU.1
  have hf_25 := hts (.fieldLink RX1 25 "ThinnedPots$Pad" "work" "LThinnedPots$Work;") (by decide +kernel)
  have hi_X1 : ∀ w ∈ u_ws RX1 TX1 4, w ∈ wsX1_readKinds := by decide +kernel
  have hi_X3 : ∀ w ∈ u_ws RX3 TX3 5, w ∈ wsX1_readKinds := by decide +kernel
  have hst_X4_write := hts (.static yX4_write) (by decide +kernel)
  have hin_X4 := hts (.initialized RX4) (by decide +kernel)
  subst hsz
  have hD := hD0.self (sz := s.heap.size)
  generalize hAe : va_A [(a0, .inr (1, [.ref a1, .int g0_1, .int g0_2, .ref a2])), (a1, .inl (cI, 60, .inl f1)), (a2, .inr (3, [w2_0, w2_1, w2_2, w2_3, .ref a3])), (a3, .inl (cI, 4, .inl f3))] s.heap.size = A at hD ⊢
  have hA : ∀ q : Nat, s.heap.size ≤ q → A q := fun q h => by rw [← hAe]; exact Or.inr h
  have hP : va_P D vwCl [(a0, .inr (1, [.ref a1, .int g0_1, .int g0_2, .ref a2])), (a1, .inl (cI, 60, .inl f1)), (a2, .inr (3, [w2_0, w2_1, w2_2, w2_3, .ref a3])), (a3, .inl (cI, 4, .inl f3))] s.heap := hP
  generalize hHe : s.heap = H at hP ⊢
  have hS : va_S A s.heap H [] := by rw [hHe]; exact va_S.rf
  have hl := lv_entry ([.ref a0]) (n := 4) (Nat.le_of_ble_eq_true rfl)
  rw [lg_entry_eq]
  generalize (lg_sl ([.ref a0]) ++ List.replicate (4 - (lg_sl ([.ref a0])).length) Slot.unset).toArray = ls at hl ⊢
  have hl : lv_has ls 4 [(0, .ref a0)] := hl
  unfold s_X1_readKinds at hsp
  refine lv_iconst (v := (-1)) hx hb dX1_readKinds_0 (by decide) ?_
  refine lv_istore_n (lv' := [(1, .int (-1)), (0, .ref a0)]) hx hb dX1_readKinds_1 rfl hl (by decide) rfl (fun ls hl => ?_)
  refine lv_iconst (v := 0) hx hb dX1_readKinds_2 (by decide) ?_
  refine lv_istore_n (lv' := [(2, .int 0), (1, .int (-1)), (0, .ref a0)]) hx hb dX1_readKinds_3 rfl hl (by decide) rfl (fun ls hl => ?_)
  refine ex_rule (D := D) (K := s_X1_readKinds_X1) (P := fun (t1 : Int32 × (Nat → Int32)) => [(a0, .inr (1, [.ref a1, .int g0_1, .int t1.1, .ref a2])), (a1, .inl (cI, 60, .inl f1)), (a2, .inr (3, [w2_0, w2_1, w2_2, w2_3, .ref a3])), (a3, .inl (cI, 4, .inl t1.2))]) (L := fun (t1 : Int32 × (Nat → Int32)) => []) (nL := 4) (pcx := 68) (res := res) (A := A) (H0 := s.heap) ?_ (fun hx1 => ?_)
  · intro t1 H locs hsp hP hD hS ls hl
    obtain ⟨x5, y6⟩ := t1
    unfold s_X1_readKinds_X1 at hsp; try dsimp only at hsp
    have hP : va_P D vwCl [(a0, .inr (1, [.ref a1, .int g0_1, .int x5, .ref a2])), (a1, .inl (cI, 60, .inl f1)), (a2, .inr (3, [w2_0, w2_1, w2_2, w2_3, .ref a3])), (a3, .inl (cI, 4, .inl y6))] H := hP
    have hD : va_D A [(a0, .inr (1, [.ref a1, .int g0_1, .int x5, .ref a2])), (a1, .inl (cI, 60, .inl f1)), (a2, .inr (3, [w2_0, w2_1, w2_2, w2_3, .ref a3])), (a3, .inl (cI, 4, .inl y6))] := hD
    have hl : lv_has ls 4 [] := hl
    refine lv_iconst (v := 1) hx hb dX1_readKinds_68 (by decide) ?_
    have hres := Option.some.inj hsp
    subst hres
    exact W.zret (v := 1) hx hb hr (zE (Or.inr rfl)) (fun t ht hW => ⟨⟨1, (), rfl, ⟨rfl, (Or.inr rfl)⟩, P_at ht hP⟩, hS.F ht⟩) hS.2.2 dX1_readKinds_69
  have hl := lv_sub hl (l' := [(0, .ref a0), (1, .int (-1)), (2, .int 0)]) [2, 1, 0] rfl
  refine lp_rule (D := D) (F := s_X1_readKinds_L1 g0_1 f1 (s_X1_readKinds_X1)) (P := fun (tv : Int32 × Int32 × Int32 × (Nat → Int32)) => [(a0, .inr (1, [.ref a1, .int g0_1, .int tv.2.2.1, .ref a2])), (a1, .inl (cI, 60, .inl f1)), (a2, .inr (3, [w2_0, w2_1, w2_2, w2_3, .ref a3])), (a3, .inl (cI, 4, .inl tv.2.2.2))]) (L := fun (tv : Int32 × Int32 × Int32 × (Nat → Int32)) => [(0, .ref a0), (1, .int tv.1), (2, .int tv.2.1)]) (nL := 4) (res := res) (A := A) (H0 := s.heap) (fun _ => rfl) ?_ 1000 ((-1), 0, g0_2, f3) _ _ hsp hP hD hS _ hl
  · intro n1 ih1 tv H locs hsp hP hD hS ls hl
    obtain ⟨x1, x2, x3, y4⟩ := tv
    have hsp : s_X1_readKinds_B1  g0_1 f1 (s_X1_readKinds_X1) (s_X1_readKinds_L1 g0_1 f1 (s_X1_readKinds_X1) n1) x1 x2 x3 y4 = some res := hsp
    unfold s_X1_readKinds_B1 at hsp
    have hP : va_P D vwCl [(a0, .inr (1, [.ref a1, .int g0_1, .int x3, .ref a2])), (a1, .inl (cI, 60, .inl f1)), (a2, .inr (3, [w2_0, w2_1, w2_2, w2_3, .ref a3])), (a3, .inl (cI, 4, .inl y4))] H := hP
    have hD : va_D A [(a0, .inr (1, [.ref a1, .int g0_1, .int x3, .ref a2])), (a1, .inl (cI, 60, .inl f1)), (a2, .inr (3, [w2_0, w2_1, w2_2, w2_3, .ref a3])), (a3, .inl (cI, 4, .inl y4))] := hD
    have hl : lv_has ls 4 [(0, .ref a0), (1, .int x1), (2, .int x2)] := hl
    refine lv_iload_n hx hb dX1_readKinds_4 rfl (lv_at hl 2 rfl) ?_
    refine lv_iconst (v := 4) hx hb dX1_readKinds_5 (by decide) ?_
    refine lv_icmp_ge (tgt := 68) hx hb dX1_readKinds_6 (by decide) (fun c7 => ?_) (fun c7 => ?_)
    · have hsp := itT hsp c7
      exact hx1 (x3, y4) _ _ hsp hP hD hS _ (lv_sub hl [] rfl)
    have hsp := itF hsp c7
    refine lv_iload_n hx hb dX1_readKinds_9 rfl (lv_at hl 1 rfl) ?_
    refine lv_iconst (v := 3) hx hb dX1_readKinds_10 (by decide) ?_
    refine lv_icmp_ge (tgt := 68) hx hb dX1_readKinds_11 (by decide) (fun c8 => ?_) (fun c8 => ?_)
    · have hsp := itT hsp c8
      exact hx1 (x3, y4) _ _ hsp hP hD hS _ (lv_sub hl [] rfl)
    have hsp := itF hsp c8
    refine lv_iload_n hx hb dX1_readKinds_14 rfl (lv_at hl 2 rfl) ?_
    refine lv_if_eq (tgt := 25) hx hb dX1_readKinds_15 (by decide) (fun c9 => ?_) (fun c9 => ?_)
    · have hsp := itT hsp c9
      refine lv_aload_n hx hb dX1_readKinds_25 rfl (lv_at hl 0 rfl) ?_
      obtain ⟨r10, hcr10, hsp⟩ := clE hsp
      refine call_i (w1 := [(a0, .inr (1, [.ref a1, .int g0_1, .int r10.2, .ref a2])), (a1, .inl (cI, 60, .inl f1))]) (ws' := [(a0, .inr (1, [.ref a1, .int g0_1, .int r10.2, .ref a2])), (a1, .inl (cI, 60, .inl f1)), (a2, .inr (3, [w2_0, w2_1, w2_2, w2_3, .ref a3])), (a3, .inl (cI, 4, .inl y4))]) (va_runV (As := []) (rest := []) ⟨hx, hb, hml, hown, hts⟩ (k_X1_readNumber l D cI cZ cC cS H.size a0 a1 g0_1 x3 (.ref a2) f1 r10 hcr10) (cwV 0 hts gX1_readKinds_X1_readNumber rfl rfl rfl nd_X1_readNumber ⟨Nat.le_of_ble_eq_true rfl, Nat.le_of_ble_eq_true rfl⟩) (PB.preV (ci := 1) (q0 := 0) hKU hP hD [0, 1] rfl rfl rfl rfl) rfl rfl hl.1 rfl (lv_room (Nat.le_of_ble_eq_true rfl)) dX1_readKinds_26 ⟨Nat.zero_le _, Nat.zero_le _⟩) hS hP hD hA [0, 1] rfl rfl (by first | (simp only [wset, List.set_cons_zero, List.set_cons_succ]; done) | rfl) rfl (fun H locs hP hD hS => ?_)
      refine lv_istore_n (lv' := [(3, .int r10.1), (0, .ref a0), (1, .int x1), (2, .int x2)]) hx hb dX1_readKinds_29 rfl hl (by decide) rfl (fun ls hl => ?_)
      refine lv_iload_n hx hb dX1_readKinds_30 rfl (lv_at hl 0 rfl) ?_
      refine lv_if_ge (tgt := 36) hx hb dX1_readKinds_31 (by decide) (fun c11 => ?_) (fun c11 => ?_)
      · have hsp := itT hsp c11
        refine lv_aload_n hx hb dX1_readKinds_36 rfl (lv_at hl 1 rfl) ?_
        refine lv_iload_n hx hb dX1_readKinds_37 rfl (lv_at hl 2 rfl) ?_
        refine lv_iconst (v := 1) hx hb dX1_readKinds_38 (by decide) ?_
        refine lv_iadd hx hb dX1_readKinds_39 ?_
        obtain ⟨r12, hcr12, hsp⟩ := clE hsp
        refine call_i (w1 := [(a0, .inr (1, [.ref a1, .int g0_1, .int r12.2, .ref a2])), (a1, .inl (cI, 60, .inl f1))]) (ws' := [(a0, .inr (1, [.ref a1, .int g0_1, .int r12.2, .ref a2])), (a1, .inl (cI, 60, .inl f1)), (a2, .inr (3, [w2_0, w2_1, w2_2, w2_3, .ref a3])), (a3, .inl (cI, 4, .inl y4))]) (va_runV (As := [.int (x1 + 1)]) (rest := []) ⟨hx, hb, hml, hown, hts⟩ (k_X1_readKind l D cI cZ cC cS H.size a0 a1 g0_1 r10.2 (.ref a2) f1 (x1 + 1) r12 hcr12) (cwV 1 hts gX1_readKinds_X1_readKind rfl rfl rfl nd_X1_readKind ⟨Nat.le_of_ble_eq_true rfl, Nat.le_of_ble_eq_true rfl⟩) (PB.preV (ci := 1) (q0 := 0) hKU hP hD [0, 1] rfl rfl rfl rfl) rfl rfl hl.1 rfl (lv_room (Nat.le_of_ble_eq_true rfl)) dX1_readKinds_40 ⟨Nat.zero_le _, Nat.zero_le _⟩) hS hP hD hA [0, 1] rfl rfl (by first | (simp only [wset, List.set_cons_zero, List.set_cons_succ]; done) | rfl) rfl (fun H locs hP hD hS => ?_)
        refine lv_istore_n (lv' := [(1, .int r12.1), (3, .int r10.1), (0, .ref a0), (2, .int x2)]) hx hb dX1_readKinds_43 rfl hl (by decide) rfl (fun ls hl => ?_)
        refine lv_iload_n hx hb dX1_readKinds_44 rfl (lv_at hl 0 rfl) ?_
        refine lv_if_ge (tgt := 50) hx hb dX1_readKinds_45 (by decide) (fun c13 => ?_) (fun c13 => ?_)
        · have hsp := itT hsp c13
          refine lv_aload_n hx hb dX1_readKinds_50 rfl (lv_at hl 2 rfl) ?_
          refine va_get (D := D) (ci := 1) (v := .ref a2) (C := RX1) (T := TX1) (N := 4) hx hb hts hi_X1 hown hK hP 0 rfl rfl 3 (by decide) hf_25 (fun _ h9 => h9) rfl dX1_readKinds_51 ?_
          refine va_getN (D := D) (ci := 3) (v := .ref a3) (C := RX3) (T := TX3) (N := 5) hx hb hts hi_X3 hown hK hP 2 rfl rfl 4 (by decide) (fn_Pad_98 hKU.2.2) (fun _ h9 => h9) rfl dX1_readKinds_54 ?_
          refine lv_iload_n hx hb dX1_readKinds_57 rfl (lv_at hl 0 rfl) ?_
          refine lv_iload_n hx hb dX1_readKinds_58 rfl (lv_at hl 1 rfl) ?_
          obtain ⟨r14, hcr14, hsp⟩ := clE hsp
          refine call_v (w1 := [(a3, .inl (cI, 4, .inl r14))]) (ws' := [(a0, .inr (1, [.ref a1, .int g0_1, .int r12.2, .ref a2])), (a1, .inl (cI, 60, .inl f1)), (a2, .inr (3, [w2_0, w2_1, w2_2, w2_3, .ref a3])), (a3, .inl (cI, 4, .inl r14))]) (va_runSN (As := [.ref a3, .int r12.1, .int r10.1]) (rest := []) ⟨hx, hb, hml, hown, hts⟩ (k_X4_write l D cI cZ cC cS H.size a3 4 y4 r12.1 r10.1 r14 hcr14) ⟨va_cnB 3 hts gX1_readKinds_X4_write_n37 rfl rfl rfl (mn_Pad_37 hKU.2.2) hin_X4 nd_X4_write.2 ⟨Nat.le_of_ble_eq_true rfl, Nat.le_of_ble_eq_true rfl⟩, hst_X4_write, trivial⟩ (PB.preS hKU hP hD [3] rfl rfl) rfl rfl hl.1 rfl (lv_room (Nat.le_of_ble_eq_true rfl)) dX1_readKinds_59 ⟨Nat.zero_le _, Nat.zero_le _⟩) hS hP hD hA [3] rfl rfl (by first | (simp only [wset, List.set_cons_zero, List.set_cons_succ]; done) | rfl) rfl (fun H locs hP hD hS => ?_)
          obtain ⟨x15, ex15, hsp⟩ := nmE hsp
          refine lv_iinc (k := 3) (v := x15) (lv' := [(2, .int x15), (1, .int r12.1), (3, .int r10.1), (0, .ref a0)]) hx hb dX1_readKinds_62 hl rfl (by rw [ex15]; rfl) (by decide) rfl (fun ls hl => ?_)
          refine lv_goto (tgt := 4) hx hb dX1_readKinds_65 (by decide) ?_
          exact ih1 (r12.1, x15, r12.2, r14) _ _ hsp hP hD hS _ (lv_sub hl [3, 1, 0] rfl)
        have hsp := itF hsp c13
        refine lv_iconst (v := 0) hx hb dX1_readKinds_48 (by decide) ?_
        have hres := Option.some.inj hsp
        subst hres
        exact W.zret (v := 0) hx hb hr (zE (Or.inl rfl)) (fun t ht hW => ⟨⟨0, (), rfl, ⟨rfl, (Or.inl rfl)⟩, P_at ht hP⟩, hS.F ht⟩) hS.2.2 dX1_readKinds_49
      have hsp := itF hsp c11
      refine lv_iconst (v := 0) hx hb dX1_readKinds_34 (by decide) ?_
      have hres := Option.some.inj hsp
      subst hres
      exact W.zret (v := 0) hx hb hr (zE (Or.inl rfl)) (fun t ht hW => ⟨⟨0, (), rfl, ⟨rfl, (Or.inl rfl)⟩, P_at ht hP⟩, hS.F ht⟩) hS.2.2 dX1_readKinds_35
    have hsp := itF hsp c9
    refine lv_aload_n hx hb dX1_readKinds_18 rfl (lv_at hl 0 rfl) ?_
    obtain ⟨r16, hcr16, hsp⟩ := clE hsp
    refine call_z (w1 := [(a0, .inr (1, [.ref a1, .int g0_1, .int x3, .ref a2])), (a1, .inl (cI, 60, .inl f1))]) (ws' := [(a0, .inr (1, [.ref a1, .int g0_1, .int x3, .ref a2])), (a1, .inl (cI, 60, .inl f1)), (a2, .inr (3, [w2_0, w2_1, w2_2, w2_3, .ref a3])), (a3, .inl (cI, 4, .inl y4))]) (va_runV (As := []) (rest := []) ⟨hx, hb, hml, hown, hts⟩ (k_X1_isAtEndOfWork l D cI cZ cC cS H.size a0 a1 g0_1 x3 (.ref a2) f1 r16 hcr16) (cwV 0 hts gX1_readKinds_X1_isAtEndOfWork rfl rfl rfl nd_X1_isAtEndOfWork ⟨Nat.le_of_ble_eq_true rfl, Nat.le_of_ble_eq_true rfl⟩) (PB.preV (ci := 1) (q0 := 0) hKU hP hD [0, 1] rfl rfl rfl rfl) rfl rfl hl.1 rfl (lv_room (Nat.le_of_ble_eq_true rfl)) dX1_readKinds_19 ⟨Nat.zero_le _, Nat.zero_le _⟩) hS hP hD hA [0, 1] rfl rfl (by first | (simp only [wset, List.set_cons_zero, List.set_cons_succ]; done) | rfl) rfl (fun H locs hP hD hS hzr16 => ?_)
    refine lv_if_ne (tgt := 68) hx hb dX1_readKinds_22 (by decide) (fun c17 => ?_) (fun c17 => ?_)
    · have hsp := itF hsp c17
      exact hx1 (x3, y4) _ _ hsp hP hD hS _ (lv_sub hl [] rfl)
    have hsp := itT hsp c17
    refine lv_aload_n hx hb dX1_readKinds_25 rfl (lv_at hl 0 rfl) ?_
    obtain ⟨r18, hcr18, hsp⟩ := clE hsp
    refine call_i (w1 := [(a0, .inr (1, [.ref a1, .int g0_1, .int r18.2, .ref a2])), (a1, .inl (cI, 60, .inl f1))]) (ws' := [(a0, .inr (1, [.ref a1, .int g0_1, .int r18.2, .ref a2])), (a1, .inl (cI, 60, .inl f1)), (a2, .inr (3, [w2_0, w2_1, w2_2, w2_3, .ref a3])), (a3, .inl (cI, 4, .inl y4))]) (va_runV (As := []) (rest := []) ⟨hx, hb, hml, hown, hts⟩ (k_X1_readNumber l D cI cZ cC cS H.size a0 a1 g0_1 x3 (.ref a2) f1 r18 hcr18) (cwV 0 hts gX1_readKinds_X1_readNumber rfl rfl rfl nd_X1_readNumber ⟨Nat.le_of_ble_eq_true rfl, Nat.le_of_ble_eq_true rfl⟩) (PB.preV (ci := 1) (q0 := 0) hKU hP hD [0, 1] rfl rfl rfl rfl) rfl rfl hl.1 rfl (lv_room (Nat.le_of_ble_eq_true rfl)) dX1_readKinds_26 ⟨Nat.zero_le _, Nat.zero_le _⟩) hS hP hD hA [0, 1] rfl rfl (by first | (simp only [wset, List.set_cons_zero, List.set_cons_succ]; done) | rfl) rfl (fun H locs hP hD hS => ?_)
    refine lv_istore_n (lv' := [(3, .int r18.1), (0, .ref a0), (1, .int x1), (2, .int x2)]) hx hb dX1_readKinds_29 rfl hl (by decide) rfl (fun ls hl => ?_)
    refine lv_iload_n hx hb dX1_readKinds_30 rfl (lv_at hl 0 rfl) ?_
    refine lv_if_ge (tgt := 36) hx hb dX1_readKinds_31 (by decide) (fun c19 => ?_) (fun c19 => ?_)
    · have hsp := itT hsp c19
      refine lv_aload_n hx hb dX1_readKinds_36 rfl (lv_at hl 1 rfl) ?_
      refine lv_iload_n hx hb dX1_readKinds_37 rfl (lv_at hl 2 rfl) ?_
      refine lv_iconst (v := 1) hx hb dX1_readKinds_38 (by decide) ?_
      refine lv_iadd hx hb dX1_readKinds_39 ?_
      obtain ⟨r20, hcr20, hsp⟩ := clE hsp
      refine call_i (w1 := [(a0, .inr (1, [.ref a1, .int g0_1, .int r20.2, .ref a2])), (a1, .inl (cI, 60, .inl f1))]) (ws' := [(a0, .inr (1, [.ref a1, .int g0_1, .int r20.2, .ref a2])), (a1, .inl (cI, 60, .inl f1)), (a2, .inr (3, [w2_0, w2_1, w2_2, w2_3, .ref a3])), (a3, .inl (cI, 4, .inl y4))]) (va_runV (As := [.int (x1 + 1)]) (rest := []) ⟨hx, hb, hml, hown, hts⟩ (k_X1_readKind l D cI cZ cC cS H.size a0 a1 g0_1 r18.2 (.ref a2) f1 (x1 + 1) r20 hcr20) (cwV 1 hts gX1_readKinds_X1_readKind rfl rfl rfl nd_X1_readKind ⟨Nat.le_of_ble_eq_true rfl, Nat.le_of_ble_eq_true rfl⟩) (PB.preV (ci := 1) (q0 := 0) hKU hP hD [0, 1] rfl rfl rfl rfl) rfl rfl hl.1 rfl (lv_room (Nat.le_of_ble_eq_true rfl)) dX1_readKinds_40 ⟨Nat.zero_le _, Nat.zero_le _⟩) hS hP hD hA [0, 1] rfl rfl (by first | (simp only [wset, List.set_cons_zero, List.set_cons_succ]; done) | rfl) rfl (fun H locs hP hD hS => ?_)
      refine lv_istore_n (lv' := [(1, .int r20.1), (3, .int r18.1), (0, .ref a0), (2, .int x2)]) hx hb dX1_readKinds_43 rfl hl (by decide) rfl (fun ls hl => ?_)
      refine lv_iload_n hx hb dX1_readKinds_44 rfl (lv_at hl 0 rfl) ?_
      refine lv_if_ge (tgt := 50) hx hb dX1_readKinds_45 (by decide) (fun c21 => ?_) (fun c21 => ?_)
      · have hsp := itT hsp c21
        refine lv_aload_n hx hb dX1_readKinds_50 rfl (lv_at hl 2 rfl) ?_
        refine va_get (D := D) (ci := 1) (v := .ref a2) (C := RX1) (T := TX1) (N := 4) hx hb hts hi_X1 hown hK hP 0 rfl rfl 3 (by decide) hf_25 (fun _ h9 => h9) rfl dX1_readKinds_51 ?_
        refine va_getN (D := D) (ci := 3) (v := .ref a3) (C := RX3) (T := TX3) (N := 5) hx hb hts hi_X3 hown hK hP 2 rfl rfl 4 (by decide) (fn_Pad_98 hKU.2.2) (fun _ h9 => h9) rfl dX1_readKinds_54 ?_
        refine lv_iload_n hx hb dX1_readKinds_57 rfl (lv_at hl 0 rfl) ?_
        refine lv_iload_n hx hb dX1_readKinds_58 rfl (lv_at hl 1 rfl) ?_
        obtain ⟨r22, hcr22, hsp⟩ := clE hsp
        refine call_v (w1 := [(a3, .inl (cI, 4, .inl r22))]) (ws' := [(a0, .inr (1, [.ref a1, .int g0_1, .int r20.2, .ref a2])), (a1, .inl (cI, 60, .inl f1)), (a2, .inr (3, [w2_0, w2_1, w2_2, w2_3, .ref a3])), (a3, .inl (cI, 4, .inl r22))]) (va_runSN (As := [.ref a3, .int r20.1, .int r18.1]) (rest := []) ⟨hx, hb, hml, hown, hts⟩ (k_X4_write l D cI cZ cC cS H.size a3 4 y4 r20.1 r18.1 r22 hcr22) ⟨va_cnB 3 hts gX1_readKinds_X4_write_n37 rfl rfl rfl (mn_Pad_37 hKU.2.2) hin_X4 nd_X4_write.2 ⟨Nat.le_of_ble_eq_true rfl, Nat.le_of_ble_eq_true rfl⟩, hst_X4_write, trivial⟩ (PB.preS hKU hP hD [3] rfl rfl) rfl rfl hl.1 rfl (lv_room (Nat.le_of_ble_eq_true rfl)) dX1_readKinds_59 ⟨Nat.zero_le _, Nat.zero_le _⟩) hS hP hD hA [3] rfl rfl (by first | (simp only [wset, List.set_cons_zero, List.set_cons_succ]; done) | rfl) rfl (fun H locs hP hD hS => ?_)
        obtain ⟨x23, ex23, hsp⟩ := nmE hsp
        refine lv_iinc (k := 3) (v := x23) (lv' := [(2, .int x23), (1, .int r20.1), (3, .int r18.1), (0, .ref a0)]) hx hb dX1_readKinds_62 hl rfl (by rw [ex23]; rfl) (by decide) rfl (fun ls hl => ?_)
        refine lv_goto (tgt := 4) hx hb dX1_readKinds_65 (by decide) ?_
        exact ih1 (r20.1, x23, r20.2, r22) _ _ hsp hP hD hS _ (lv_sub hl [3, 1, 0] rfl)
      have hsp := itF hsp c21
      refine lv_iconst (v := 0) hx hb dX1_readKinds_48 (by decide) ?_
      have hres := Option.some.inj hsp
      subst hres
      exact W.zret (v := 0) hx hb hr (zE (Or.inl rfl)) (fun t ht hW => ⟨⟨0, (), rfl, ⟨rfl, (Or.inl rfl)⟩, P_at ht hP⟩, hS.F ht⟩) hS.2.2 dX1_readKinds_49
    have hsp := itF hsp c19
    refine lv_iconst (v := 0) hx hb dX1_readKinds_34 (by decide) ?_
    have hres := Option.some.inj hsp
    subst hres
    exact W.zret (v := 0) hx hb hr (zE (Or.inl rfl)) (fun t ht hW => ⟨⟨0, (), rfl, ⟨rfl, (Or.inl rfl)⟩, P_at ht hP⟩, hS.F ht⟩) hS.2.2 dX1_readKinds_35

theorem nd_X1_readOther : yX1_readOther.cls = RX1 ∧ yX1_readOther.cls ≠ "java/lang/invoke/MethodHandle" ∧ yX1_readOther.cls ≠ "java/lang/invoke/VarHandle" ∧ (parseMethodDescriptor yX1_readOther.desc).map (fun d => d.parameters.length) = some 0 := by decide +kernel
set_option maxHeartbeats 8000000 in
set_option maxRecDepth 100000 in
theorem k_X1_readOther (l : Launch) (D : va_G) (cI cZ cC cS : ClassId) (sz : Nat) (a0 a1 a2 : Nat) (g0_1 : Int32) (g0_2 : Int32) (f1 : Nat → Int32) (w2_0 : Value) (w2_1 : Value) (g2_2 : Int32) (w2_3 : Value) (w2_4 : Value) (res : Int32 × Int32 × Int32) (hsp : s_X1_readOther g0_1 g0_2 f1 = some res) : Met l yX1_readOther wsX1_readOther ({ frames := 2, cells := 0, slots := 0, locals := 45 }) (va_Pc [.ref a0] (PB D cI cZ cC cS [(a0, .inr (1, [.ref a1, .int g0_1, .int g0_2, .ref a2])), (a1, .inl (cI, 60, .inl f1)), (a2, .inr (3, [w2_0, w2_1, .int g2_2, w2_3, w2_4]))] sz)) (va_Qi (fun r (_ : Unit) => r = res.1 ∧ (res.1 = 0 ∨ res.1 = 1)) (fun _ t => va_P D vwCl [(a0, .inr (1, [.ref a1, .int g0_1, .int res.2.1, .ref a2])), (a1, .inl (cI, 60, .inl f1)), (a2, .inr (3, [w2_0, w2_1, .int res.2.2, w2_3, w2_4]))] t.heap) (va_A [(a0, .inr (1, [.ref a1, .int g0_1, .int g0_2, .ref a2])), (a1, .inl (cI, 60, .inl f1)), (a2, .inr (3, [w2_0, w2_1, .int g2_2, w2_3, w2_4]))] sz)) 0 0 (va_A [(a0, .inr (1, [.ref a1, .int g0_1, .int g0_2, .ref a2])), (a1, .inl (cI, 60, .inl f1)), (a2, .inr (3, [w2_0, w2_1, .int g2_2, w2_3, w2_4]))] sz) := by
  refine Met.ofW (cc := cX1_readOther) (maxL := 1) (ret := (some .boolean)) (by decide) rfl ?_
  intro p e s m args below meth c s₁ B hml hv
  obtain ⟨rfl, hsz, hP, hD0, hKU⟩ := hv
  have hx := B.exec
  have hb := B.bytes
  have hr := B.returns
  have hts := atoms_spec (ws := wsX1_readOther) B.pre
  have hown : s.vm.findClass RX1 = some m.cls := findClass_of_methodNamed B.named
  have hlocks := B.notSynchronized
  have hK := hKU.1
  have hf_25 := hts (.fieldLink RX1 25 "ThinnedPots$Pad" "work" "LThinnedPots$Work;") (by decide +kernel)
  have hi_X1 : ∀ w ∈ u_ws RX1 TX1 4, w ∈ wsX1_readOther := by decide +kernel
  have hi_X3 : ∀ w ∈ u_ws RX3 TX3 5, w ∈ wsX1_readOther := by decide +kernel
  subst hsz
  have hD := hD0.self (sz := s.heap.size)
  generalize hAe : va_A [(a0, .inr (1, [.ref a1, .int g0_1, .int g0_2, .ref a2])), (a1, .inl (cI, 60, .inl f1)), (a2, .inr (3, [w2_0, w2_1, .int g2_2, w2_3, w2_4]))] s.heap.size = A at hD ⊢
  have hA : ∀ q : Nat, s.heap.size ≤ q → A q := fun q h => by rw [← hAe]; exact Or.inr h
  have hP : va_P D vwCl [(a0, .inr (1, [.ref a1, .int g0_1, .int g0_2, .ref a2])), (a1, .inl (cI, 60, .inl f1)), (a2, .inr (3, [w2_0, w2_1, .int g2_2, w2_3, w2_4]))] s.heap := hP
  generalize hHe : s.heap = H at hP ⊢
  have hS : va_S A s.heap H [] := by rw [hHe]; exact va_S.rf
  have hl := lv_entry ([.ref a0]) (n := 1) (Nat.le_of_ble_eq_true rfl)
  rw [lg_entry_eq]
  generalize (lg_sl ([.ref a0]) ++ List.replicate (1 - (lg_sl ([.ref a0])).length) Slot.unset).toArray = ls at hl ⊢
  have hl : lv_has ls 1 [(0, .ref a0)] := hl
  unfold s_X1_readOther at hsp
  refine lv_aload_n hx hb dX1_readOther_0 rfl (lv_at hl 0 rfl) ?_
  refine va_get (D := D) (ci := 1) (v := .ref a2) (C := RX1) (T := TX1) (N := 4) hx hb hts hi_X1 hown hK hP 0 rfl rfl 3 (by decide) hf_25 (fun _ h9 => h9) rfl dX1_readOther_1 ?_
  refine lv_aload_n hx hb dX1_readOther_4 rfl (lv_at hl 0 rfl) ?_
  refine lv_iconst (v := 0) hx hb dX1_readOther_5 (by decide) ?_
  refine lv_bipush (v := 7) hx hb dX1_readOther_6 (by decide) ?_
  obtain ⟨r1, hcr1, hsp⟩ := clE hsp
  refine call_i (w1 := [(a0, .inr (1, [.ref a1, .int g0_1, .int r1.2, .ref a2])), (a1, .inl (cI, 60, .inl f1))]) (ws' := [(a0, .inr (1, [.ref a1, .int g0_1, .int r1.2, .ref a2])), (a1, .inl (cI, 60, .inl f1)), (a2, .inr (3, [w2_0, w2_1, .int g2_2, w2_3, w2_4]))]) (va_runV (As := [.int 0, .int 7]) (rest := [.ref a2]) ⟨hx, hb, hml, hown, hts⟩ (k_X1_readDigit l D cI cZ cC cS H.size a0 a1 g0_1 g0_2 (.ref a2) f1 0 7 r1 hcr1) (cwV 2 hts gX1_readOther_X1_readDigit rfl rfl rfl nd_X1_readDigit ⟨Nat.le_of_ble_eq_true rfl, Nat.le_of_ble_eq_true rfl⟩) (PB.preV (ci := 1) (q0 := 0) hKU hP hD [0, 1] rfl rfl rfl rfl) rfl rfl hl.1 rfl (lv_room (Nat.le_of_ble_eq_true rfl)) dX1_readOther_8 ⟨Nat.zero_le _, Nat.zero_le _⟩) hS hP hD hA [0, 1] rfl rfl (by first | (simp only [wset, List.set_cons_zero, List.set_cons_succ]; done) | rfl) rfl (fun H locs hP hD hS => ?_)
  refine va_putN (D := D) (ci := 3) (v := .int r1.1) (ty := .int) (C := RX3) (T := TX3) (N := 5) hx hb hts hi_X3 tyX3 tyX3_ok nmX3 hown hK hP hD hS 2 rfl rfl 2 (by decide) (fn_Pad_85 hKU.2.2) (fun _ h9 => h9) rfl (by decide +kernel) rfl rfl (Nat.le_of_ble_eq_true rfl) dX1_readOther_11 (fun H locs hP hD hS => ?_)
  have hP : va_P D vwCl [(a0, .inr (1, [.ref a1, .int g0_1, .int r1.2, .ref a2])), (a1, .inl (cI, 60, .inl f1)), (a2, .inr (3, [w2_0, w2_1, .int r1.1, w2_3, w2_4]))] H := hP
  have hD : va_D A [(a0, .inr (1, [.ref a1, .int g0_1, .int r1.2, .ref a2])), (a1, .inl (cI, 60, .inl f1)), (a2, .inr (3, [w2_0, w2_1, .int r1.1, w2_3, w2_4]))] := hD
  refine lv_aload_n hx hb dX1_readOther_14 rfl (lv_at hl 0 rfl) ?_
  refine va_get (D := D) (ci := 1) (v := .ref a2) (C := RX1) (T := TX1) (N := 4) hx hb hts hi_X1 hown hK hP 0 rfl rfl 3 (by decide) hf_25 (fun _ h9 => h9) rfl dX1_readOther_15 ?_
  refine va_getN (D := D) (ci := 3) (v := .int r1.1) (C := RX3) (T := TX3) (N := 5) hx hb hts hi_X3 hown hK hP 2 rfl rfl 2 (by decide) (fn_Pad_85 hKU.2.2) (fun _ h9 => h9) rfl dX1_readOther_18 ?_
  refine lv_if_lt (tgt := 28) hx hb dX1_readOther_21 (by decide) (fun c2 => ?_) (fun c2 => ?_)
  · have hsp := itT hsp c2
    refine lv_iconst (v := 0) hx hb dX1_readOther_28 (by decide) ?_
    have hres := Option.some.inj hsp
    subst hres
    exact W.zret (v := 0) hx hb hr (zE (Or.inl rfl)) (fun t ht hW => ⟨⟨0, (), rfl, ⟨rfl, (Or.inl rfl)⟩, P_at ht hP⟩, hS.F ht⟩) hS.2.2 dX1_readOther_29
  have hsp := itF hsp c2
  refine lv_iconst (v := 1) hx hb dX1_readOther_24 (by decide) ?_
  refine lv_goto (tgt := 29) hx hb dX1_readOther_25 (by decide) ?_
  have hres := Option.some.inj hsp
  subst hres
  exact W.zret (v := 1) hx hb hr (zE (Or.inr rfl)) (fun t ht hW => ⟨⟨1, (), rfl, ⟨rfl, (Or.inr rfl)⟩, P_at ht hP⟩, hS.F ht⟩) hS.2.2 dX1_readOther_29

theorem nd_X1_readSign : yX1_readSign.cls = RX1 ∧ yX1_readSign.cls ≠ "java/lang/invoke/MethodHandle" ∧ yX1_readSign.cls ≠ "java/lang/invoke/VarHandle" ∧ (parseMethodDescriptor yX1_readSign.desc).map (fun d => d.parameters.length) = some 1 := by decide +kernel
set_option maxHeartbeats 8000000 in
set_option maxRecDepth 100000 in
theorem k_X1_readSign (l : Launch) (D : va_G) (cI cZ cC cS : ClassId) (sz : Nat) (a0 a1 : Nat) (g0_1 : Int32) (g0_2 : Int32) (w0_3 : Value) (f1 : Nat → Int32) (u1 : Int32) (res : Int32 × Int32) (hsp : s_X1_readSign g0_1 g0_2 f1 u1 = some res) : Met l yX1_readSign wsX1_readSign ({ frames := 1, cells := 0, slots := 0, locals := 20 }) (va_Pc [.ref a0, .int u1] (PB D cI cZ cC cS [(a0, .inr (1, [.ref a1, .int g0_1, .int g0_2, w0_3])), (a1, .inl (cI, 60, .inl f1))] sz)) (va_Qi (fun r (_ : Unit) => r = res.1 ∧ (res.1 = 0 ∨ res.1 = 1)) (fun _ t => va_P D vwCl [(a0, .inr (1, [.ref a1, .int g0_1, .int res.2, w0_3])), (a1, .inl (cI, 60, .inl f1))] t.heap) (va_A [(a0, .inr (1, [.ref a1, .int g0_1, .int g0_2, w0_3])), (a1, .inl (cI, 60, .inl f1))] sz)) 0 0 (va_A [(a0, .inr (1, [.ref a1, .int g0_1, .int g0_2, w0_3])), (a1, .inl (cI, 60, .inl f1))] sz) := by
  refine Met.ofW (cc := cX1_readSign) (maxL := 2) (ret := (some .boolean)) (by decide) rfl ?_
  intro p e s m args below meth c s₁ B hml hv
  obtain ⟨rfl, hsz, hP, hD0, hKU⟩ := hv
  have hx := B.exec
  have hb := B.bytes
  have hr := B.returns
  have hts := atoms_spec (ws := wsX1_readSign) B.pre
  have hown : s.vm.findClass RX1 = some m.cls := findClass_of_methodNamed B.named
  have hlocks := B.notSynchronized
  have hK := hKU.1
  have hf_19 := hts (.fieldLink RX1 19 "ThinnedPots$Pad" "place" "I") (by decide +kernel)
  have hi_X1 : ∀ w ∈ u_ws RX1 TX1 4, w ∈ wsX1_readSign := by decide +kernel
  subst hsz
  have hD := hD0.self (sz := s.heap.size)
  generalize hAe : va_A [(a0, .inr (1, [.ref a1, .int g0_1, .int g0_2, w0_3])), (a1, .inl (cI, 60, .inl f1))] s.heap.size = A at hD ⊢
  have hA : ∀ q : Nat, s.heap.size ≤ q → A q := fun q h => by rw [← hAe]; exact Or.inr h
  have hP : va_P D vwCl [(a0, .inr (1, [.ref a1, .int g0_1, .int g0_2, w0_3])), (a1, .inl (cI, 60, .inl f1))] s.heap := hP
  generalize hHe : s.heap = H at hP ⊢
  have hS : va_S A s.heap H [] := by rw [hHe]; exact va_S.rf
  have hl := lv_entry ([.ref a0, .int u1]) (n := 2) (Nat.le_of_ble_eq_true rfl)
  rw [lg_entry_eq]
  generalize (lg_sl ([.ref a0, .int u1]) ++ List.replicate (2 - (lg_sl ([.ref a0, .int u1])).length) Slot.unset).toArray = ls at hl ⊢
  have hl : lv_has ls 2 [(0, .ref a0), (1, .int u1)] := hl
  unfold s_X1_readSign at hsp
  refine lv_aload_n hx hb dX1_readSign_0 rfl (lv_at hl 0 rfl) ?_
  obtain ⟨r1, hcr1, hsp⟩ := clE hsp
  refine call_i (w1 := [(a0, .inr (1, [.ref a1, .int g0_1, .int g0_2, w0_3])), (a1, .inl (cI, 60, .inl f1))]) (ws' := [(a0, .inr (1, [.ref a1, .int g0_1, .int g0_2, w0_3])), (a1, .inl (cI, 60, .inl f1))]) (va_runV (As := []) (rest := []) ⟨hx, hb, hml, hown, hts⟩ (k_X1_sign l D cI cZ cC cS H.size a0 a1 g0_1 g0_2 (w0_3) f1 r1 hcr1) (cwV 0 hts gX1_readSign_X1_sign rfl rfl rfl nd_X1_sign ⟨Nat.le_of_ble_eq_true rfl, Nat.le_of_ble_eq_true rfl⟩) (PB.preV (ci := 1) (q0 := 0) hKU hP hD [0, 1] rfl rfl rfl rfl) rfl rfl hl.1 rfl (lv_room (Nat.le_of_ble_eq_true rfl)) dX1_readSign_1 ⟨Nat.zero_le _, Nat.zero_le _⟩) hS hP hD hA [0, 1] rfl rfl (by first | (simp only [wset, List.set_cons_zero, List.set_cons_succ]; done) | rfl) rfl (fun H locs hP hD hS => ?_)
  refine lv_iload_n hx hb dX1_readSign_4 rfl (lv_at hl 1 rfl) ?_
  refine lv_icmp_eq (tgt := 10) hx hb dX1_readSign_5 (by decide) (fun c2 => ?_) (fun c2 => ?_)
  · have hsp := itT hsp c2
    refine lv_aload_n hx hb dX1_readSign_10 rfl (lv_at hl 0 rfl) ?_
    refine lv_dup hx hb dX1_readSign_11 rfl ?_
    refine va_get (D := D) (ci := 1) (v := .int g0_2) (C := RX1) (T := TX1) (N := 4) hx hb hts hi_X1 hown hK hP 0 rfl rfl 2 (by decide) hf_19 (fun _ h9 => h9) rfl dX1_readSign_12 ?_
    refine lv_iconst (v := 1) hx hb dX1_readSign_15 (by decide) ?_
    refine lv_iadd hx hb dX1_readSign_16 ?_
    obtain ⟨x3, ex3, hsp⟩ := nmE hsp
    refine r_top ex3 ?_
    refine va_put (D := D) (ci := 1) (v := .int x3) (ty := .int) (C := RX1) (T := TX1) (N := 4) hx hb hts hi_X1 tyX1 tyX1_ok nmX1 hown hK hP hD hS 0 rfl rfl 2 (by decide) hf_19 (fun _ h9 => h9) rfl (by decide +kernel) rfl rfl (Nat.le_of_ble_eq_true rfl) dX1_readSign_17 (fun H locs hP hD hS => ?_)
    have hP : va_P D vwCl [(a0, .inr (1, [.ref a1, .int g0_1, .int x3, w0_3])), (a1, .inl (cI, 60, .inl f1))] H := hP
    have hD : va_D A [(a0, .inr (1, [.ref a1, .int g0_1, .int x3, w0_3])), (a1, .inl (cI, 60, .inl f1))] := hD
    refine lv_iconst (v := 1) hx hb dX1_readSign_20 (by decide) ?_
    have hres := Option.some.inj hsp
    subst hres
    exact W.zret (v := 1) hx hb hr (zE (Or.inr rfl)) (fun t ht hW => ⟨⟨1, (), rfl, ⟨rfl, (Or.inr rfl)⟩, P_at ht hP⟩, hS.F ht⟩) hS.2.2 dX1_readSign_21
  have hsp := itF hsp c2
  refine lv_iconst (v := 0) hx hb dX1_readSign_8 (by decide) ?_
  have hres := Option.some.inj hsp
  subst hres
  exact W.zret (v := 0) hx hb hr (zE (Or.inl rfl)) (fun t ht hW => ⟨⟨0, (), rfl, ⟨rfl, (Or.inl rfl)⟩, P_at ht hP⟩, hS.F ht⟩) hS.2.2 dX1_readSign_9

theorem nd_X1_readDrops : yX1_readDrops.cls = RX1 ∧ yX1_readDrops.cls ≠ "java/lang/invoke/MethodHandle" ∧ yX1_readDrops.cls ≠ "java/lang/invoke/VarHandle" ∧ (parseMethodDescriptor yX1_readDrops.desc).map (fun d => d.parameters.length) = some 1 := by decide +kernel
set_option maxHeartbeats 8000000 in
set_option maxRecDepth 100000 in
theorem k_X1_readDrops (l : Launch) (D : va_G) (cI cZ cC cS : ClassId) (sz : Nat) (a0 a2 : Nat) (w0_0 : Value) (w0_1 : Value) (w0_2 : Value) (w2_0 : Value) (w2_1 : Value) (w2_2 : Value) (g2_3 : Int32) (w2_4 : Value) (u1 : Int32) (res : Int32 × Int32) (hsp : s_X1_readDrops u1 = some res) : Met l yX1_readDrops wsX1_readDrops ({ frames := 0, cells := 0, slots := 0, locals := 0 }) (va_Pc [.ref a0, .int u1] (PB D cI cZ cC cS [(a0, .inr (1, [w0_0, w0_1, w0_2, .ref a2])), (a2, .inr (3, [w2_0, w2_1, w2_2, .int g2_3, w2_4]))] sz)) (va_Qi (fun r (_ : Unit) => r = res.1 ∧ (res.1 = 0 ∨ res.1 = 1)) (fun _ t => va_P D vwCl [(a0, .inr (1, [w0_0, w0_1, w0_2, .ref a2])), (a2, .inr (3, [w2_0, w2_1, w2_2, .int res.2, w2_4]))] t.heap) (va_A [(a0, .inr (1, [w0_0, w0_1, w0_2, .ref a2])), (a2, .inr (3, [w2_0, w2_1, w2_2, .int g2_3, w2_4]))] sz)) 0 0 (va_A [(a0, .inr (1, [w0_0, w0_1, w0_2, .ref a2])), (a2, .inr (3, [w2_0, w2_1, w2_2, .int g2_3, w2_4]))] sz) := by
  refine Met.ofW (cc := cX1_readDrops) (maxL := 2) (ret := (some .boolean)) (by decide) rfl ?_
  intro p e s m args below meth c s₁ B hml hv
  obtain ⟨rfl, hsz, hP, hD0, hKU⟩ := hv
  have hx := B.exec
  have hb := B.bytes
  have hr := B.returns
  have hts := atoms_spec (ws := wsX1_readDrops) B.pre
  have hown : s.vm.findClass RX1 = some m.cls := findClass_of_methodNamed B.named
  have hlocks := B.notSynchronized
  have hK := hKU.1
  have hf_25 := hts (.fieldLink RX1 25 "ThinnedPots$Pad" "work" "LThinnedPots$Work;") (by decide +kernel)
  have hi_X1 : ∀ w ∈ u_ws RX1 TX1 4, w ∈ wsX1_readDrops := by decide +kernel
  have hi_X3 : ∀ w ∈ u_ws RX3 TX3 5, w ∈ wsX1_readDrops := by decide +kernel
  subst hsz
  have hD := hD0.self (sz := s.heap.size)
  generalize hAe : va_A [(a0, .inr (1, [w0_0, w0_1, w0_2, .ref a2])), (a2, .inr (3, [w2_0, w2_1, w2_2, .int g2_3, w2_4]))] s.heap.size = A at hD ⊢
  have hA : ∀ q : Nat, s.heap.size ≤ q → A q := fun q h => by rw [← hAe]; exact Or.inr h
  have hP : va_P D vwCl [(a0, .inr (1, [w0_0, w0_1, w0_2, .ref a2])), (a2, .inr (3, [w2_0, w2_1, w2_2, .int g2_3, w2_4]))] s.heap := hP
  generalize hHe : s.heap = H at hP ⊢
  have hS : va_S A s.heap H [] := by rw [hHe]; exact va_S.rf
  have hl := lv_entry ([.ref a0, .int u1]) (n := 2) (Nat.le_of_ble_eq_true rfl)
  rw [lg_entry_eq]
  generalize (lg_sl ([.ref a0, .int u1]) ++ List.replicate (2 - (lg_sl ([.ref a0, .int u1])).length) Slot.unset).toArray = ls at hl ⊢
  have hl : lv_has ls 2 [(0, .ref a0), (1, .int u1)] := hl
  unfold s_X1_readDrops at hsp
  refine lv_aload_n hx hb dX1_readDrops_0 rfl (lv_at hl 0 rfl) ?_
  refine va_get (D := D) (ci := 1) (v := .ref a2) (C := RX1) (T := TX1) (N := 4) hx hb hts hi_X1 hown hK hP 0 rfl rfl 3 (by decide) hf_25 (fun _ h9 => h9) rfl dX1_readDrops_1 ?_
  refine lv_iload_n hx hb dX1_readDrops_4 rfl (lv_at hl 1 rfl) ?_
  refine va_putN (D := D) (ci := 3) (v := .int u1) (ty := .int) (C := RX3) (T := TX3) (N := 5) hx hb hts hi_X3 tyX3 tyX3_ok nmX3 hown hK hP hD hS 1 rfl rfl 3 (by decide) (fn_Pad_88 hKU.2.2) (fun _ h9 => h9) rfl (by decide +kernel) rfl rfl (Nat.le_of_ble_eq_true rfl) dX1_readDrops_5 (fun H locs hP hD hS => ?_)
  have hP : va_P D vwCl [(a0, .inr (1, [w0_0, w0_1, w0_2, .ref a2])), (a2, .inr (3, [w2_0, w2_1, w2_2, .int u1, w2_4]))] H := hP
  have hD : va_D A [(a0, .inr (1, [w0_0, w0_1, w0_2, .ref a2])), (a2, .inr (3, [w2_0, w2_1, w2_2, .int u1, w2_4]))] := hD
  refine lv_iload_n hx hb dX1_readDrops_8 rfl (lv_at hl 1 rfl) ?_
  refine lv_if_lt (tgt := 16) hx hb dX1_readDrops_9 (by decide) (fun c1 => ?_) (fun c1 => ?_)
  · have hsp := itT hsp c1
    refine lv_iconst (v := 0) hx hb dX1_readDrops_16 (by decide) ?_
    have hres := Option.some.inj hsp
    subst hres
    exact W.zret (v := 0) hx hb hr (zE (Or.inl rfl)) (fun t ht hW => ⟨⟨0, (), rfl, ⟨rfl, (Or.inl rfl)⟩, P_at ht hP⟩, hS.F ht⟩) hS.2.2 dX1_readDrops_17
  have hsp := itF hsp c1
  refine lv_iconst (v := 1) hx hb dX1_readDrops_12 (by decide) ?_
  refine lv_goto (tgt := 17) hx hb dX1_readDrops_13 (by decide) ?_
  have hres := Option.some.inj hsp
  subst hres
  exact W.zret (v := 1) hx hb hr (zE (Or.inr rfl)) (fun t ht hW => ⟨⟨1, (), rfl, ⟨rfl, (Or.inr rfl)⟩, P_at ht hP⟩, hS.F ht⟩) hS.2.2 dX1_readDrops_17

theorem nd_X1_readTarget : yX1_readTarget.cls = RX1 ∧ yX1_readTarget.cls ≠ "java/lang/invoke/MethodHandle" ∧ yX1_readTarget.cls ≠ "java/lang/invoke/VarHandle" ∧ (parseMethodDescriptor yX1_readTarget.desc).map (fun d => d.parameters.length) = some 1 := by decide +kernel
set_option maxHeartbeats 8000000 in
set_option maxRecDepth 100000 in
theorem k_X1_readTarget (l : Launch) (D : va_G) (cI cZ cC cS : ClassId) (sz : Nat) (a0 a1 a2 : Nat) (g0_1 : Int32) (g0_2 : Int32) (f1 : Nat → Int32) (w2_0 : Value) (g2_1 : Int32) (w2_2 : Value) (w2_3 : Value) (w2_4 : Value) (u1 : Int32) (res : Int32 × Int32 × Int32) (hsp : s_X1_readTarget g0_1 g0_2 f1 u1 = some res) : Met l yX1_readTarget wsX1_readTarget ({ frames := 2, cells := 0, slots := 0, locals := 45 }) (va_Pc [.ref a0, .int u1] (PB D cI cZ cC cS [(a0, .inr (1, [.ref a1, .int g0_1, .int g0_2, .ref a2])), (a1, .inl (cI, 60, .inl f1)), (a2, .inr (3, [w2_0, .int g2_1, w2_2, w2_3, w2_4]))] sz)) (va_Qi (fun r (_ : Unit) => r = res.1 ∧ (res.1 = 0 ∨ res.1 = 1)) (fun _ t => va_P D vwCl [(a0, .inr (1, [.ref a1, .int g0_1, .int res.2.1, .ref a2])), (a1, .inl (cI, 60, .inl f1)), (a2, .inr (3, [w2_0, .int res.2.2, w2_2, w2_3, w2_4]))] t.heap) (va_A [(a0, .inr (1, [.ref a1, .int g0_1, .int g0_2, .ref a2])), (a1, .inl (cI, 60, .inl f1)), (a2, .inr (3, [w2_0, .int g2_1, w2_2, w2_3, w2_4]))] sz)) 0 0 (va_A [(a0, .inr (1, [.ref a1, .int g0_1, .int g0_2, .ref a2])), (a1, .inl (cI, 60, .inl f1)), (a2, .inr (3, [w2_0, .int g2_1, w2_2, w2_3, w2_4]))] sz) := by
  refine Met.ofW (cc := cX1_readTarget) (maxL := 2) (ret := (some .boolean)) (by decide) rfl ?_
  intro p e s m args below meth c s₁ B hml hv
  obtain ⟨rfl, hsz, hP, hD0, hKU⟩ := hv
  have hx := B.exec
  have hb := B.bytes
  have hr := B.returns
  have hts := atoms_spec (ws := wsX1_readTarget) B.pre
  have hown : s.vm.findClass RX1 = some m.cls := findClass_of_methodNamed B.named
  have hlocks := B.notSynchronized
  have hK := hKU.1
  have hf_25 := hts (.fieldLink RX1 25 "ThinnedPots$Pad" "work" "LThinnedPots$Work;") (by decide +kernel)
  have hi_X1 : ∀ w ∈ u_ws RX1 TX1 4, w ∈ wsX1_readTarget := by decide +kernel
  have hi_X3 : ∀ w ∈ u_ws RX3 TX3 5, w ∈ wsX1_readTarget := by decide +kernel
  subst hsz
  have hD := hD0.self (sz := s.heap.size)
  generalize hAe : va_A [(a0, .inr (1, [.ref a1, .int g0_1, .int g0_2, .ref a2])), (a1, .inl (cI, 60, .inl f1)), (a2, .inr (3, [w2_0, .int g2_1, w2_2, w2_3, w2_4]))] s.heap.size = A at hD ⊢
  have hA : ∀ q : Nat, s.heap.size ≤ q → A q := fun q h => by rw [← hAe]; exact Or.inr h
  have hP : va_P D vwCl [(a0, .inr (1, [.ref a1, .int g0_1, .int g0_2, .ref a2])), (a1, .inl (cI, 60, .inl f1)), (a2, .inr (3, [w2_0, .int g2_1, w2_2, w2_3, w2_4]))] s.heap := hP
  generalize hHe : s.heap = H at hP ⊢
  have hS : va_S A s.heap H [] := by rw [hHe]; exact va_S.rf
  have hl := lv_entry ([.ref a0, .int u1]) (n := 2) (Nat.le_of_ble_eq_true rfl)
  rw [lg_entry_eq]
  generalize (lg_sl ([.ref a0, .int u1]) ++ List.replicate (2 - (lg_sl ([.ref a0, .int u1])).length) Slot.unset).toArray = ls at hl ⊢
  have hl : lv_has ls 2 [(0, .ref a0), (1, .int u1)] := hl
  unfold s_X1_readTarget at hsp
  refine lv_aload_n hx hb dX1_readTarget_0 rfl (lv_at hl 0 rfl) ?_
  refine va_get (D := D) (ci := 1) (v := .ref a2) (C := RX1) (T := TX1) (N := 4) hx hb hts hi_X1 hown hK hP 0 rfl rfl 3 (by decide) hf_25 (fun _ h9 => h9) rfl dX1_readTarget_1 ?_
  refine lv_aload_n hx hb dX1_readTarget_4 rfl (lv_at hl 0 rfl) ?_
  refine lv_iconst (v := 0) hx hb dX1_readTarget_5 (by decide) ?_
  refine lv_iload_n hx hb dX1_readTarget_6 rfl (lv_at hl 1 rfl) ?_
  refine lv_iconst (v := 1) hx hb dX1_readTarget_7 (by decide) ?_
  refine lv_isub hx hb dX1_readTarget_8 ?_
  obtain ⟨r1, hcr1, hsp⟩ := clE hsp
  refine call_i (w1 := [(a0, .inr (1, [.ref a1, .int g0_1, .int r1.2, .ref a2])), (a1, .inl (cI, 60, .inl f1))]) (ws' := [(a0, .inr (1, [.ref a1, .int g0_1, .int r1.2, .ref a2])), (a1, .inl (cI, 60, .inl f1)), (a2, .inr (3, [w2_0, .int g2_1, w2_2, w2_3, w2_4]))]) (va_runV (As := [.int 0, .int (u1 - 1)]) (rest := [.ref a2]) ⟨hx, hb, hml, hown, hts⟩ (k_X1_readDigit l D cI cZ cC cS H.size a0 a1 g0_1 g0_2 (.ref a2) f1 0 (u1 - 1) r1 hcr1) (cwV 2 hts gX1_readTarget_X1_readDigit rfl rfl rfl nd_X1_readDigit ⟨Nat.le_of_ble_eq_true rfl, Nat.le_of_ble_eq_true rfl⟩) (PB.preV (ci := 1) (q0 := 0) hKU hP hD [0, 1] rfl rfl rfl rfl) rfl rfl hl.1 rfl (lv_room (Nat.le_of_ble_eq_true rfl)) dX1_readTarget_9 ⟨Nat.zero_le _, Nat.zero_le _⟩) hS hP hD hA [0, 1] rfl rfl (by first | (simp only [wset, List.set_cons_zero, List.set_cons_succ]; done) | rfl) rfl (fun H locs hP hD hS => ?_)
  refine va_putN (D := D) (ci := 3) (v := .int r1.1) (ty := .int) (C := RX3) (T := TX3) (N := 5) hx hb hts hi_X3 tyX3 tyX3_ok nmX3 hown hK hP hD hS 2 rfl rfl 1 (by decide) (fn_Pad_82 hKU.2.2) (fun _ h9 => h9) rfl (by decide +kernel) rfl rfl (Nat.le_of_ble_eq_true rfl) dX1_readTarget_12 (fun H locs hP hD hS => ?_)
  have hP : va_P D vwCl [(a0, .inr (1, [.ref a1, .int g0_1, .int r1.2, .ref a2])), (a1, .inl (cI, 60, .inl f1)), (a2, .inr (3, [w2_0, .int r1.1, w2_2, w2_3, w2_4]))] H := hP
  have hD : va_D A [(a0, .inr (1, [.ref a1, .int g0_1, .int r1.2, .ref a2])), (a1, .inl (cI, 60, .inl f1)), (a2, .inr (3, [w2_0, .int r1.1, w2_2, w2_3, w2_4]))] := hD
  refine lv_aload_n hx hb dX1_readTarget_15 rfl (lv_at hl 0 rfl) ?_
  refine va_get (D := D) (ci := 1) (v := .ref a2) (C := RX1) (T := TX1) (N := 4) hx hb hts hi_X1 hown hK hP 0 rfl rfl 3 (by decide) hf_25 (fun _ h9 => h9) rfl dX1_readTarget_16 ?_
  refine va_getN (D := D) (ci := 3) (v := .int r1.1) (C := RX3) (T := TX3) (N := 5) hx hb hts hi_X3 hown hK hP 2 rfl rfl 1 (by decide) (fn_Pad_82 hKU.2.2) (fun _ h9 => h9) rfl dX1_readTarget_19 ?_
  refine lv_if_lt (tgt := 29) hx hb dX1_readTarget_22 (by decide) (fun c2 => ?_) (fun c2 => ?_)
  · have hsp := itT hsp c2
    refine lv_iconst (v := 0) hx hb dX1_readTarget_29 (by decide) ?_
    have hres := Option.some.inj hsp
    subst hres
    exact W.zret (v := 0) hx hb hr (zE (Or.inl rfl)) (fun t ht hW => ⟨⟨0, (), rfl, ⟨rfl, (Or.inl rfl)⟩, P_at ht hP⟩, hS.F ht⟩) hS.2.2 dX1_readTarget_30
  have hsp := itF hsp c2
  refine lv_iconst (v := 1) hx hb dX1_readTarget_25 (by decide) ?_
  refine lv_goto (tgt := 30) hx hb dX1_readTarget_26 (by decide) ?_
  have hres := Option.some.inj hsp
  subst hres
  exact W.zret (v := 1) hx hb hr (zE (Or.inr rfl)) (fun t ht hW => ⟨⟨1, (), rfl, ⟨rfl, (Or.inr rfl)⟩, P_at ht hP⟩, hS.F ht⟩) hS.2.2 dX1_readTarget_30
