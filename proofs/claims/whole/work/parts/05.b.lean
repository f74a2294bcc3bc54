theorem nd_X5_takes : yX5_takes.cls = RX5 ∧ yX5_takes.cls ≠ "java/lang/invoke/MethodHandle" ∧ yX5_takes.cls ≠ "java/lang/invoke/VarHandle" ∧ (parseMethodDescriptor yX5_takes.desc).map (fun d => d.parameters.length) = some 2 := by decide +kernel
set_option maxHeartbeats 8000000 in
set_option maxRecDepth 100000 in
theorem k_X5_takes (l : Launch) (D : va_G) (cI cZ cC cS : ClassId) (sz : Nat) (a0 a1 a6 : Nat) (w0_1 : Value) (w0_2 : Value) (w0_3 : Value) (w0_4 : Value) (w0_6 : Value) (w0_7 : Value) (w0_8 : Value) (w0_9 : Value) (w0_10 : Value) (w0_11 : Value) (w0_12 : Value) (f1 : Nat → Int32) (f6 : Nat → Int32) (u1 : Int32) (u2 : Int32) (res : (Nat → Int32) × (Nat → Int32)) (hsp : s_X5_takes f1 f6 u1 u2 = some res) : Met l yX5_takes wsX5_takes ({ frames := 2, cells := 0, slots := 0, locals := 50 }) (va_Pc [.ref a0, .int u1, .int u2] (PB D cI cZ cC cS [(a0, .inr (5, [.ref a1, w0_1, w0_2, w0_3, w0_4, .ref a6, w0_6, w0_7, w0_8, w0_9, w0_10, w0_11, w0_12])), (a1, .inl (cI, 99, .inl f1)), (a6, .inl (cI, 4, .inl f6))] sz)) (va_Qv (fun (_ : Unit) => True) (fun _ t => va_P D vwCl [(a0, .inr (5, [.ref a1, w0_1, w0_2, w0_3, w0_4, .ref a6, w0_6, w0_7, w0_8, w0_9, w0_10, w0_11, w0_12])), (a1, .inl (cI, 99, .inl res.1)), (a6, .inl (cI, 4, .inl res.2))] t.heap) (va_A [(a0, .inr (5, [.ref a1, w0_1, w0_2, w0_3, w0_4, .ref a6, w0_6, w0_7, w0_8, w0_9, w0_10, w0_11, w0_12])), (a1, .inl (cI, 99, .inl f1)), (a6, .inl (cI, 4, .inl f6))] sz)) 0 0 (va_A [(a0, .inr (5, [.ref a1, w0_1, w0_2, w0_3, w0_4, .ref a6, w0_6, w0_7, w0_8, w0_9, w0_10, w0_11, w0_12])), (a1, .inl (cI, 99, .inl f1)), (a6, .inl (cI, 4, .inl f6))] sz) := by
  refine Met.ofW (cc := cX5_takes) (maxL := 7) (ret := none) (by decide) rfl ?_
  intro p e s m args below meth c s₁ B hml hv
  obtain ⟨rfl, hsz, hP, hD0, hKU⟩ := hv
  have hx := B.exec
  have hb := B.bytes
  have hr := B.returns
  have hts := atoms_spec (ws := wsX5_takes) B.pre
  have hown : s.vm.findClass RX5 = some m.cls := findClass_of_methodNamed B.named
  have hlocks := B.notSynchronized
  have hK := hKU.1
  have hf_7 := hts (.fieldLink RX5 7 "ThinnedPotsModel" "s" "[I") (by decide +kernel)
  have hi_X5 : ∀ w ∈ u_ws RX5 TX5 13, w ∈ wsX5_takes := by decide +kernel
  have hf_26 := hts (.fieldLink RX5 26 "ThinnedPotsModel" "taken" "[I") (by decide +kernel)
  subst hsz
  have hD := hD0.self (sz := s.heap.size)
  generalize hAe : va_A [(a0, .inr (5, [.ref a1, w0_1, w0_2, w0_3, w0_4, .ref a6, w0_6, w0_7, w0_8, w0_9, w0_10, w0_11, w0_12])), (a1, .inl (cI, 99, .inl f1)), (a6, .inl (cI, 4, .inl f6))] s.heap.size = A at hD ⊢
  have hA : ∀ q : Nat, s.heap.size ≤ q → A q := fun q h => by rw [← hAe]; exact Or.inr h
  have hP : va_P D vwCl [(a0, .inr (5, [.ref a1, w0_1, w0_2, w0_3, w0_4, .ref a6, w0_6, w0_7, w0_8, w0_9, w0_10, w0_11, w0_12])), (a1, .inl (cI, 99, .inl f1)), (a6, .inl (cI, 4, .inl f6))] s.heap := hP
  generalize hHe : s.heap = H at hP ⊢
  have hS : va_S A s.heap H [] := by rw [hHe]; exact va_S.rf
  have hl := lv_entry ([.ref a0, .int u1, .int u2]) (n := 7) (Nat.le_of_ble_eq_true rfl)
  rw [lg_entry_eq]
  generalize (lg_sl ([.ref a0, .int u1, .int u2]) ++ List.replicate (7 - (lg_sl ([.ref a0, .int u1, .int u2])).length) Slot.unset).toArray = ls at hl ⊢
  have hl : lv_has ls 7 [(0, .ref a0), (1, .int u1), (2, .int u2)] := hl
  unfold s_X5_takes at hsp
  refine lv_aload_n hx hb dX5_takes_0 rfl (lv_at hl 0 rfl) ?_
  refine lv_iload_n hx hb dX5_takes_1 rfl (lv_at hl 1 rfl) ?_
  obtain ⟨r1, hcr1, hsp⟩ := clE hsp
  refine call_i (w1 := [(a0, .inr (5, [.ref a1, w0_1, w0_2, w0_3, w0_4, .ref a6, w0_6, w0_7, w0_8, w0_9, w0_10, w0_11, w0_12])), (a1, .inl (cI, 99, .inl f1))]) (ws' := [(a0, .inr (5, [.ref a1, w0_1, w0_2, w0_3, w0_4, .ref a6, w0_6, w0_7, w0_8, w0_9, w0_10, w0_11, w0_12])), (a1, .inl (cI, 99, .inl f1)), (a6, .inl (cI, 4, .inl f6))]) (va_runV (As := [.int u1]) (rest := []) ⟨hx, hb, hml, hown, hts⟩ (k_X5_drops l D cI cZ cC cS H.size a0 a1 (w0_1) (w0_2) (w0_3) (w0_4) (.ref a6) (w0_6) (w0_7) (w0_8) (w0_9) (w0_10) (w0_11) (w0_12) f1 u1 r1 hcr1) (cwV 1 hts gX5_takes_X5_drops rfl rfl rfl nd_X5_drops ⟨Nat.le_of_ble_eq_true rfl, Nat.le_of_ble_eq_true rfl⟩) (PB.preV (ci := 5) (q0 := 0) hKU hP hD [0, 1] rfl rfl rfl rfl) rfl rfl hl.1 rfl (lv_room (Nat.le_of_ble_eq_true rfl)) dX5_takes_2 ⟨Nat.zero_le _, Nat.zero_le _⟩) hS hP hD hA [0, 1] rfl rfl (by first | (simp only [wset, List.set_cons_zero, List.set_cons_succ]; done) | rfl) rfl (fun H locs hP hD hS => ?_)
  refine lv_istore_n (lv' := [(3, .int r1), (0, .ref a0), (1, .int u1), (2, .int u2)]) hx hb dX5_takes_5 rfl hl (by decide) rfl (fun ls hl => ?_)
  refine lv_iconst (v := 0) hx hb dX5_takes_6 (by decide) ?_
  refine lv_istore (lv' := [(4, .int 0), (3, .int r1), (0, .ref a0), (1, .int u1), (2, .int u2)]) hx hb dX5_takes_7 hl (by decide) rfl (fun ls hl => ?_)
  refine lv_iconst (v := 0) hx hb dX5_takes_9 (by decide) ?_
  refine lv_istore (lv' := [(5, .int 0), (4, .int 0), (3, .int r1), (0, .ref a0), (1, .int u1), (2, .int u2)]) hx hb dX5_takes_10 hl (by decide) rfl (fun ls hl => ?_)
  refine lv_iconst (v := 0) hx hb dX5_takes_12 (by decide) ?_
  refine lv_istore (lv' := [(6, .int 0), (5, .int 0), (4, .int 0), (3, .int r1), (0, .ref a0), (1, .int u1), (2, .int u2)]) hx hb dX5_takes_13 hl (by decide) rfl (fun ls hl => ?_)
  refine ex_rule (D := D) (K := s_X5_takes_X1 u2 f1 u1) (P := fun (t1 : Int32 × (Nat → Int32)) => [(a0, .inr (5, [.ref a1, w0_1, w0_2, w0_3, w0_4, .ref a6, w0_6, w0_7, w0_8, w0_9, w0_10, w0_11, w0_12])), (a1, .inl (cI, 99, .inl f1)), (a6, .inl (cI, 4, .inl t1.2))]) (L := fun (t1 : Int32 × (Nat → Int32)) => [(0, .ref a0), (1, .int u1), (2, .int u2), (4, .int t1.1), (5, .int 0)]) (nL := 7) (pcx := 59) (res := res) (A := A) (H0 := s.heap) ?_ (fun hx1 => ?_)
  · intro t1 H locs hsp hP hD hS ls hl
    obtain ⟨x5, y6⟩ := t1
    unfold s_X5_takes_X1 at hsp; try dsimp only at hsp
    have hP : va_P D vwCl [(a0, .inr (5, [.ref a1, w0_1, w0_2, w0_3, w0_4, .ref a6, w0_6, w0_7, w0_8, w0_9, w0_10, w0_11, w0_12])), (a1, .inl (cI, 99, .inl f1)), (a6, .inl (cI, 4, .inl y6))] H := hP
    have hD : va_D A [(a0, .inr (5, [.ref a1, w0_1, w0_2, w0_3, w0_4, .ref a6, w0_6, w0_7, w0_8, w0_9, w0_10, w0_11, w0_12])), (a1, .inl (cI, 99, .inl f1)), (a6, .inl (cI, 4, .inl y6))] := hD
    have hl : lv_has ls 7 [(0, .ref a0), (1, .int u1), (2, .int u2), (4, .int x5), (5, .int 0)] := hl
    refine ex_rule (D := D) (K := s_X5_takes_X2 u1 f1) (P := fun (t2 : (Nat → Int32)) => [(a0, .inr (5, [.ref a1, w0_1, w0_2, w0_3, w0_4, .ref a6, w0_6, w0_7, w0_8, w0_9, w0_10, w0_11, w0_12])), (a1, .inl (cI, 99, .inl f1)), (a6, .inl (cI, 4, .inl t2))]) (L := fun (t2 : (Nat → Int32)) => [(0, .ref a0), (1, .int u1)]) (nL := 7) (pcx := 101) (res := res) (A := A) (H0 := s.heap) ?_ (fun hx2 => ?_)
    · intro t2 H locs hsp hP hD hS ls hl
      obtain ⟨y10, rfl⟩ : ∃ z, z = t2 := ⟨_, rfl⟩
      unfold s_X5_takes_X2 at hsp; try dsimp only at hsp
      have hP : va_P D vwCl [(a0, .inr (5, [.ref a1, w0_1, w0_2, w0_3, w0_4, .ref a6, w0_6, w0_7, w0_8, w0_9, w0_10, w0_11, w0_12])), (a1, .inl (cI, 99, .inl f1)), (a6, .inl (cI, 4, .inl y10))] H := hP
      have hD : va_D A [(a0, .inr (5, [.ref a1, w0_1, w0_2, w0_3, w0_4, .ref a6, w0_6, w0_7, w0_8, w0_9, w0_10, w0_11, w0_12])), (a1, .inl (cI, 99, .inl f1)), (a6, .inl (cI, 4, .inl y10))] := hD
      have hl : lv_has ls 7 [(0, .ref a0), (1, .int u1)] := hl
      refine lv_iconst (v := 0) hx hb dX5_takes_101 (by decide) ?_
      refine lv_istore (lv' := [(6, .int 0), (0, .ref a0), (1, .int u1)]) hx hb dX5_takes_102 hl (by decide) rfl (fun ls hl => ?_)
      refine ex_rule (D := D) (K := s_X5_takes_X3 y10) (P := fun (t3 : (Nat → Int32)) => [(a0, .inr (5, [.ref a1, w0_1, w0_2, w0_3, w0_4, .ref a6, w0_6, w0_7, w0_8, w0_9, w0_10, w0_11, w0_12])), (a1, .inl (cI, 99, .inl t3)), (a6, .inl (cI, 4, .inl y10))]) (L := fun (t3 : (Nat → Int32)) => []) (nL := 7) (pcx := 135) (res := res) (A := A) (H0 := s.heap) ?_ (fun hx3 => ?_)
      · intro t3 H locs hsp hP hD hS ls hl
        obtain ⟨y13, rfl⟩ : ∃ z, z = t3 := ⟨_, rfl⟩
        unfold s_X5_takes_X3 at hsp; try dsimp only at hsp
        have hP : va_P D vwCl [(a0, .inr (5, [.ref a1, w0_1, w0_2, w0_3, w0_4, .ref a6, w0_6, w0_7, w0_8, w0_9, w0_10, w0_11, w0_12])), (a1, .inl (cI, 99, .inl y13)), (a6, .inl (cI, 4, .inl y10))] H := hP
        have hD : va_D A [(a0, .inr (5, [.ref a1, w0_1, w0_2, w0_3, w0_4, .ref a6, w0_6, w0_7, w0_8, w0_9, w0_10, w0_11, w0_12])), (a1, .inl (cI, 99, .inl y13)), (a6, .inl (cI, 4, .inl y10))] := hD
        have hl : lv_has ls 7 [] := hl
        have hres := Option.some.inj hsp
        subst hres
        exact W.vret hx hb hr (fun t ht hW => ⟨⟨(), rfl, trivial, P_at ht hP⟩, hS.F ht⟩) hS.2.2 dX5_takes_135
      have hl := lv_sub hl (l' := [(0, .ref a0), (1, .int u1), (6, .int 0)]) [1, 2, 0] rfl
      refine lp_rule (D := D) (F := s_X5_takes_L3 u1 y10 (s_X5_takes_X3 y10)) (P := fun (tv : Int32 × (Nat → Int32)) => [(a0, .inr (5, [.ref a1, w0_1, w0_2, w0_3, w0_4, .ref a6, w0_6, w0_7, w0_8, w0_9, w0_10, w0_11, w0_12])), (a1, .inl (cI, 99, .inl tv.2)), (a6, .inl (cI, 4, .inl y10))]) (L := fun (tv : Int32 × (Nat → Int32)) => [(0, .ref a0), (1, .int u1), (6, .int tv.1)]) (nL := 7) (res := res) (A := A) (H0 := s.heap) (fun _ => rfl) ?_ 1000 (0, f1) _ _ hsp hP hD hS _ hl
      · intro n3 ih3 tv H locs hsp hP hD hS ls hl
        obtain ⟨x11, y12⟩ := tv
        have hsp : s_X5_takes_B3  u1 y10 (s_X5_takes_X3 y10) (s_X5_takes_L3 u1 y10 (s_X5_takes_X3 y10) n3) x11 y12 = some res := hsp
        unfold s_X5_takes_B3 at hsp
        have hP : va_P D vwCl [(a0, .inr (5, [.ref a1, w0_1, w0_2, w0_3, w0_4, .ref a6, w0_6, w0_7, w0_8, w0_9, w0_10, w0_11, w0_12])), (a1, .inl (cI, 99, .inl y12)), (a6, .inl (cI, 4, .inl y10))] H := hP
        have hD : va_D A [(a0, .inr (5, [.ref a1, w0_1, w0_2, w0_3, w0_4, .ref a6, w0_6, w0_7, w0_8, w0_9, w0_10, w0_11, w0_12])), (a1, .inl (cI, 99, .inl y12)), (a6, .inl (cI, 4, .inl y10))] := hD
        have hl : lv_has ls 7 [(0, .ref a0), (1, .int u1), (6, .int x11)] := hl
        refine lv_iload hx hb dX5_takes_104 (lv_at hl 2 rfl) ?_
        refine lv_iconst (v := 4) hx hb dX5_takes_106 (by decide) ?_
        refine lv_icmp_ge (tgt := 135) hx hb dX5_takes_107 (by decide) (fun c14 => ?_) (fun c14 => ?_)
        · have hsp := itT hsp c14
          exact hx3 y12 _ _ hsp hP hD hS _ (lv_sub hl [] rfl)
        have hsp := itF hsp c14
        refine lv_aload_n hx hb dX5_takes_110 rfl (lv_at hl 0 rfl) ?_
        refine va_get (D := D) (ci := 5) (v := .ref a1) (C := RX5) (T := TX5) (N := 13) hx hb hts hi_X5 hown hK hP 0 rfl rfl 0 (by decide) hf_7 (fun _ h9 => h9) rfl dX5_takes_111 ?_
        refine lv_iload_n hx hb dX5_takes_114 rfl (lv_at hl 1 rfl) ?_
        refine lv_iload hx hb dX5_takes_115 (lv_at hl 2 rfl) ?_
        refine lv_iadd hx hb dX5_takes_117 ?_
        refine lv_dup2_11 hx hb dX5_takes_118 rfl rfl ?_
        obtain ⟨x15, ex15, hnx15, hsp⟩ := ldE hsp
        refine r_iald hx hb hK hP 1 0 rfl rfl ex15 hnx15 dX5_takes_119 ?_
        refine lv_aload_n hx hb dX5_takes_120 rfl (lv_at hl 0 rfl) ?_
        refine va_get (D := D) (ci := 5) (v := .ref a6) (C := RX5) (T := TX5) (N := 13) hx hb hts hi_X5 hown hK hP 0 rfl rfl 5 (by decide) hf_26 (fun _ h9 => h9) rfl dX5_takes_121 ?_
        refine lv_iload hx hb dX5_takes_124 (lv_at hl 2 rfl) ?_
        obtain ⟨x16, ex16, hnx16, hsp⟩ := ldE hsp
        refine r_iald hx hb hK hP 2 0 rfl rfl ex16 hnx16 dX5_takes_126 ?_
        refine lv_isub hx hb dX5_takes_127 ?_
        obtain ⟨x17, ex17, hsp⟩ := nmE hsp
        refine r_top ex17 ?_
        obtain ⟨y18, ey18, hny18, hsp⟩ := stoE hsp
        refine r_iast (ws' := [(a0, .inr (5, [.ref a1, w0_1, w0_2, w0_3, w0_4, .ref a6, w0_6, w0_7, w0_8, w0_9, w0_10, w0_11, w0_12])), (a1, .inl (cI, 99, .inl y18)), (a6, .inl (cI, 4, .inl y10))]) hx hb hK hP hD hS 1 0 rfl rfl ey18 hny18 rfl dX5_takes_128 (fun H locs hP hD hS => ?_)
        obtain ⟨x19, ex19, hsp⟩ := nmE hsp
        refine lv_iinc (k := 2) (v := x19) (lv' := [(6, .int x19), (0, .ref a0), (1, .int u1)]) hx hb dX5_takes_129 hl rfl (by rw [ex19]; rfl) (by decide) rfl (fun ls hl => ?_)
        refine lv_goto (tgt := 104) hx hb dX5_takes_132 (by decide) ?_
        exact ih3 (x19, y18) _ _ hsp hP hD hS _ (lv_sub hl [1, 2, 0] rfl)
    have hl := lv_sub hl (l' := [(0, .ref a0), (1, .int u1), (2, .int u2), (4, .int x5), (5, .int 0)]) [0, 1, 2, 3, 4] rfl
    refine lp_rule (D := D) (F := s_X5_takes_L2 u2 f1 u1 (s_X5_takes_X2 u1 f1)) (P := fun (tv : Int32 × Int32 × (Nat → Int32)) => [(a0, .inr (5, [.ref a1, w0_1, w0_2, w0_3, w0_4, .ref a6, w0_6, w0_7, w0_8, w0_9, w0_10, w0_11, w0_12])), (a1, .inl (cI, 99, .inl f1)), (a6, .inl (cI, 4, .inl tv.2.2))]) (L := fun (tv : Int32 × Int32 × (Nat → Int32)) => [(0, .ref a0), (1, .int u1), (2, .int u2), (4, .int tv.1), (5, .int tv.2.1)]) (nL := 7) (res := res) (A := A) (H0 := s.heap) (fun _ => rfl) ?_ 1000 (x5, 0, y6) _ _ hsp hP hD hS _ hl
    · intro n2 ih2 tv H locs hsp hP hD hS ls hl
      obtain ⟨x7, x8, y9⟩ := tv
      have hsp : s_X5_takes_B2  u2 f1 u1 (s_X5_takes_X2 u1 f1) (s_X5_takes_L2 u2 f1 u1 (s_X5_takes_X2 u1 f1) n2) x7 x8 y9 = some res := hsp
      unfold s_X5_takes_B2 at hsp
      have hP : va_P D vwCl [(a0, .inr (5, [.ref a1, w0_1, w0_2, w0_3, w0_4, .ref a6, w0_6, w0_7, w0_8, w0_9, w0_10, w0_11, w0_12])), (a1, .inl (cI, 99, .inl f1)), (a6, .inl (cI, 4, .inl y9))] H := hP
      have hD : va_D A [(a0, .inr (5, [.ref a1, w0_1, w0_2, w0_3, w0_4, .ref a6, w0_6, w0_7, w0_8, w0_9, w0_10, w0_11, w0_12])), (a1, .inl (cI, 99, .inl f1)), (a6, .inl (cI, 4, .inl y9))] := hD
      have hl : lv_has ls 7 [(0, .ref a0), (1, .int u1), (2, .int u2), (4, .int x7), (5, .int x8)] := hl
      refine lv_iload hx hb dX5_takes_59 (lv_at hl 3 rfl) ?_
      refine lv_iload_n hx hb dX5_takes_61 rfl (lv_at hl 2 rfl) ?_
      refine lv_icmp_ge (tgt := 101) hx hb dX5_takes_62 (by decide) (fun c20 => ?_) (fun c20 => ?_)
      · have hsp := itT hsp c20
        exact hx2 y9 _ _ hsp hP hD hS _ (lv_sub hl [0, 1] rfl)
      have hsp := itF hsp c20
      refine lv_aload_n hx hb dX5_takes_65 rfl (lv_at hl 0 rfl) ?_
      refine lv_iload_n hx hb dX5_takes_66 rfl (lv_at hl 1 rfl) ?_
      refine lv_iload_n hx hb dX5_takes_67 rfl (lv_at hl 2 rfl) ?_
      refine lv_iload hx hb dX5_takes_68 (lv_at hl 4 rfl) ?_
      obtain ⟨r21, hcr21, hsp⟩ := clE hsp
      refine call_i (w1 := [(a0, .inr (5, [.ref a1, w0_1, w0_2, w0_3, w0_4, .ref a6, w0_6, w0_7, w0_8, w0_9, w0_10, w0_11, w0_12])), (a1, .inl (cI, 99, .inl f1))]) (ws' := [(a0, .inr (5, [.ref a1, w0_1, w0_2, w0_3, w0_4, .ref a6, w0_6, w0_7, w0_8, w0_9, w0_10, w0_11, w0_12])), (a1, .inl (cI, 99, .inl f1)), (a6, .inl (cI, 4, .inl y9))]) (va_runV (As := [.int u1, .int u2, .int x8]) (rest := []) ⟨hx, hb, hml, hown, hts⟩ (k_X5_mostLeft l D cI cZ cC cS H.size a0 a1 (w0_1) (w0_2) (w0_3) (w0_4) (.ref a6) (w0_6) (w0_7) (w0_8) (w0_9) (w0_10) (w0_11) (w0_12) f1 u1 u2 x8 r21 hcr21) (cwV 3 hts gX5_takes_X5_mostLeft rfl rfl rfl nd_X5_mostLeft ⟨Nat.le_of_ble_eq_true rfl, Nat.le_of_ble_eq_true rfl⟩) (PB.preV (ci := 5) (q0 := 0) hKU hP hD [0, 1] rfl rfl rfl rfl) rfl rfl hl.1 rfl (lv_room (Nat.le_of_ble_eq_true rfl)) dX5_takes_70 ⟨Nat.zero_le _, Nat.zero_le _⟩) hS hP hD hA [0, 1] rfl rfl (by first | (simp only [wset, List.set_cons_zero, List.set_cons_succ]; done) | rfl) rfl (fun H locs hP hD hS => ?_)
      refine lv_istore (lv' := [(6, .int r21), (0, .ref a0), (1, .int u1), (2, .int u2), (4, .int x7), (5, .int x8)]) hx hb dX5_takes_73 hl (by decide) rfl (fun ls hl => ?_)
      refine lv_aload_n hx hb dX5_takes_75 rfl (lv_at hl 1 rfl) ?_
      refine va_get (D := D) (ci := 5) (v := .ref a6) (C := RX5) (T := TX5) (N := 13) hx hb hts hi_X5 hown hK hP 0 rfl rfl 5 (by decide) hf_26 (fun _ h9 => h9) rfl dX5_takes_76 ?_
      refine lv_iload hx hb dX5_takes_79 (lv_at hl 0 rfl) ?_
      refine lv_dup2_11 hx hb dX5_takes_81 rfl rfl ?_
      obtain ⟨x22, ex22, hnx22, hsp⟩ := ldE hsp
      refine r_iald hx hb hK hP 2 0 rfl rfl ex22 hnx22 dX5_takes_82 ?_
      refine lv_iconst (v := 1) hx hb dX5_takes_83 (by decide) ?_
      refine lv_iadd hx hb dX5_takes_84 ?_
      obtain ⟨x23, ex23, hsp⟩ := nmE hsp
      refine r_top ex23 ?_
      obtain ⟨y24, ey24, hny24, hsp⟩ := stoE hsp
      refine r_iast (ws' := [(a0, .inr (5, [.ref a1, w0_1, w0_2, w0_3, w0_4, .ref a6, w0_6, w0_7, w0_8, w0_9, w0_10, w0_11, w0_12])), (a1, .inl (cI, 99, .inl f1)), (a6, .inl (cI, 4, .inl y24))]) hx hb hK hP hD hS 2 0 rfl rfl ey24 hny24 rfl dX5_takes_85 (fun H locs hP hD hS => ?_)
      refine lv_iload hx hb dX5_takes_86 (lv_at hl 5 rfl) ?_
      refine lv_iconst (v := 1) hx hb dX5_takes_88 (by decide) ?_
      refine lv_iload hx hb dX5_takes_89 (lv_at hl 0 rfl) ?_
      refine lv_ishl hx hb dX5_takes_91 ?_
      refine lv_ior hx hb dX5_takes_92 ?_
      obtain ⟨x25, ex25, hsp⟩ := nmE hsp
      refine r_top ex25 ?_
      refine lv_istore (lv' := [(5, .int x25), (6, .int r21), (0, .ref a0), (1, .int u1), (2, .int u2), (4, .int x7)]) hx hb dX5_takes_93 hl (by decide) rfl (fun ls hl => ?_)
      obtain ⟨x26, ex26, hsp⟩ := nmE hsp
      refine lv_iinc (k := 5) (v := x26) (lv' := [(4, .int x26), (5, .int x25), (6, .int r21), (0, .ref a0), (1, .int u1), (2, .int u2)]) hx hb dX5_takes_95 hl rfl (by rw [ex26]; rfl) (by decide) rfl (fun ls hl => ?_)
      refine lv_goto (tgt := 59) hx hb dX5_takes_98 (by decide) ?_
      exact ih2 (x26, x25, y24) _ _ hsp hP hD hS _ (lv_sub hl [3, 4, 5, 0, 1] rfl)
  have hl := lv_sub hl (l' := [(0, .ref a0), (1, .int u1), (2, .int u2), (3, .int r1), (4, .int 0), (5, .int 0), (6, .int 0)]) [4, 5, 6, 3, 2, 1, 0] rfl
  refine lp_rule (D := D) (F := s_X5_takes_L1 f1 u1 u2 r1 (s_X5_takes_X1 u2 f1 u1)) (P := fun (tv : Int32 × Int32 × (Nat → Int32)) => [(a0, .inr (5, [.ref a1, w0_1, w0_2, w0_3, w0_4, .ref a6, w0_6, w0_7, w0_8, w0_9, w0_10, w0_11, w0_12])), (a1, .inl (cI, 99, .inl f1)), (a6, .inl (cI, 4, .inl tv.2.2))]) (L := fun (tv : Int32 × Int32 × (Nat → Int32)) => [(0, .ref a0), (1, .int u1), (2, .int u2), (3, .int r1), (4, .int tv.1), (5, .int 0), (6, .int tv.2.1)]) (nL := 7) (res := res) (A := A) (H0 := s.heap) (fun _ => rfl) ?_ 1000 (0, 0, f6) _ _ hsp hP hD hS _ hl
  · intro n1 ih1 tv H locs hsp hP hD hS ls hl
    obtain ⟨x2, x3, y4⟩ := tv
    have hsp : s_X5_takes_B1  f1 u1 u2 r1 (s_X5_takes_X1 u2 f1 u1) (s_X5_takes_L1 f1 u1 u2 r1 (s_X5_takes_X1 u2 f1 u1) n1) x2 x3 y4 = some res := hsp
    unfold s_X5_takes_B1 at hsp
    have hP : va_P D vwCl [(a0, .inr (5, [.ref a1, w0_1, w0_2, w0_3, w0_4, .ref a6, w0_6, w0_7, w0_8, w0_9, w0_10, w0_11, w0_12])), (a1, .inl (cI, 99, .inl f1)), (a6, .inl (cI, 4, .inl y4))] H := hP
    have hD : va_D A [(a0, .inr (5, [.ref a1, w0_1, w0_2, w0_3, w0_4, .ref a6, w0_6, w0_7, w0_8, w0_9, w0_10, w0_11, w0_12])), (a1, .inl (cI, 99, .inl f1)), (a6, .inl (cI, 4, .inl y4))] := hD
    have hl : lv_has ls 7 [(0, .ref a0), (1, .int u1), (2, .int u2), (3, .int r1), (4, .int x2), (5, .int 0), (6, .int x3)] := hl
    refine lv_iload hx hb dX5_takes_15 (lv_at hl 6 rfl) ?_
    refine lv_iconst (v := 4) hx hb dX5_takes_17 (by decide) ?_
    refine lv_icmp_ge (tgt := 59) hx hb dX5_takes_18 (by decide) (fun c27 => ?_) (fun c27 => ?_)
    · have hsp := itT hsp c27
      exact hx1 (x2, y4) _ _ hsp hP hD hS _ (lv_sub hl [0, 1, 2, 4, 5] rfl)
    have hsp := itF hsp c27
    refine lv_aload_n hx hb dX5_takes_21 rfl (lv_at hl 0 rfl) ?_
    refine va_get (D := D) (ci := 5) (v := .ref a6) (C := RX5) (T := TX5) (N := 13) hx hb hts hi_X5 hown hK hP 0 rfl rfl 5 (by decide) hf_26 (fun _ h9 => h9) rfl dX5_takes_22 ?_
    refine lv_iload hx hb dX5_takes_25 (lv_at hl 6 rfl) ?_
    refine lv_aload_n hx hb dX5_takes_27 rfl (lv_at hl 0 rfl) ?_
    refine va_get (D := D) (ci := 5) (v := .ref a1) (C := RX5) (T := TX5) (N := 13) hx hb hts hi_X5 hown hK hP 0 rfl rfl 0 (by decide) hf_7 (fun _ h9 => h9) rfl dX5_takes_28 ?_
    refine lv_iload_n hx hb dX5_takes_31 rfl (lv_at hl 1 rfl) ?_
    refine lv_iload hx hb dX5_takes_32 (lv_at hl 6 rfl) ?_
    refine lv_iadd hx hb dX5_takes_34 ?_
    obtain ⟨x28, ex28, hnx28, hsp⟩ := ldE hsp
    refine r_iald hx hb hK hP 1 0 rfl rfl ex28 hnx28 dX5_takes_35 ?_
    refine lv_iload_n hx hb dX5_takes_36 rfl (lv_at hl 2 rfl) ?_
    refine lv_imul hx hb dX5_takes_37 ?_
    refine lv_iload_n hx hb dX5_takes_38 rfl (lv_at hl 3 rfl) ?_
    obtain ⟨x29, ex29, hnx29, hsp⟩ := dvE hsp
    refine lv_idiv hx hb dX5_takes_39 hnx29 ?_
    refine r_top ex29 ?_
    obtain ⟨y30, ey30, hny30, hsp⟩ := stoE hsp
    refine r_iast (ws' := [(a0, .inr (5, [.ref a1, w0_1, w0_2, w0_3, w0_4, .ref a6, w0_6, w0_7, w0_8, w0_9, w0_10, w0_11, w0_12])), (a1, .inl (cI, 99, .inl f1)), (a6, .inl (cI, 4, .inl y30))]) hx hb hK hP hD hS 2 0 rfl rfl ey30 hny30 rfl dX5_takes_40 (fun H locs hP hD hS => ?_)
    refine lv_iload hx hb dX5_takes_41 (lv_at hl 4 rfl) ?_
    refine lv_aload_n hx hb dX5_takes_43 rfl (lv_at hl 0 rfl) ?_
    refine va_get (D := D) (ci := 5) (v := .ref a6) (C := RX5) (T := TX5) (N := 13) hx hb hts hi_X5 hown hK hP 0 rfl rfl 5 (by decide) hf_26 (fun _ h9 => h9) rfl dX5_takes_44 ?_
    refine lv_iload hx hb dX5_takes_47 (lv_at hl 6 rfl) ?_
    obtain ⟨x31, ex31, hnx31, hsp⟩ := ldE hsp
    refine r_iald hx hb hK hP 2 0 rfl rfl ex31 hnx31 dX5_takes_49 ?_
    refine lv_iadd hx hb dX5_takes_50 ?_
    obtain ⟨x32, ex32, hsp⟩ := nmE hsp
    refine r_top ex32 ?_
    refine lv_istore (lv' := [(4, .int x32), (0, .ref a0), (1, .int u1), (2, .int u2), (3, .int r1), (5, .int 0), (6, .int x3)]) hx hb dX5_takes_51 hl (by decide) rfl (fun ls hl => ?_)
    obtain ⟨x33, ex33, hsp⟩ := nmE hsp
    refine lv_iinc (k := 6) (v := x33) (lv' := [(6, .int x33), (4, .int x32), (0, .ref a0), (1, .int u1), (2, .int u2), (3, .int r1), (5, .int 0)]) hx hb dX5_takes_53 hl rfl (by rw [ex33]; rfl) (by decide) rfl (fun ls hl => ?_)
    refine lv_goto (tgt := 15) hx hb dX5_takes_56 (by decide) ?_
    exact ih1 (x32, x33, y30) _ _ hsp hP hD hS _ (lv_sub hl [2, 3, 4, 5, 1, 6, 0] rfl)

theorem nd_X5_puts : yX5_puts.cls = RX5 ∧ yX5_puts.cls ≠ "java/lang/invoke/MethodHandle" ∧ yX5_puts.cls ≠ "java/lang/invoke/VarHandle" ∧ (parseMethodDescriptor yX5_puts.desc).map (fun d => d.parameters.length) = some 1 := by decide +kernel
set_option maxHeartbeats 8000000 in
set_option maxRecDepth 100000 in
theorem k_X5_puts (l : Launch) (D : va_G) (cI cZ cC cS : ClassId) (sz : Nat) (a0 a1 a6 : Nat) (w0_1 : Value) (w0_2 : Value) (w0_3 : Value) (w0_4 : Value) (w0_6 : Value) (w0_7 : Value) (w0_8 : Value) (w0_9 : Value) (w0_10 : Value) (w0_11 : Value) (w0_12 : Value) (f1 : Nat → Int32) (f6 : Nat → Int32) (u1 : Int32) (res : (Nat → Int32)) (hsp : s_X5_puts f1 f6 u1 = some res) : Met l yX5_puts wsX5_puts ({ frames := 0, cells := 0, slots := 0, locals := 0 }) (va_Pc [.ref a0, .int u1] (PB D cI cZ cC cS [(a0, .inr (5, [.ref a1, w0_1, w0_2, w0_3, w0_4, .ref a6, w0_6, w0_7, w0_8, w0_9, w0_10, w0_11, w0_12])), (a1, .inl (cI, 99, .inl f1)), (a6, .inl (cI, 4, .inl f6))] sz)) (va_Qv (fun (_ : Unit) => True) (fun _ t => va_P D vwCl [(a0, .inr (5, [.ref a1, w0_1, w0_2, w0_3, w0_4, .ref a6, w0_6, w0_7, w0_8, w0_9, w0_10, w0_11, w0_12])), (a1, .inl (cI, 99, .inl res)), (a6, .inl (cI, 4, .inl f6))] t.heap) (va_A [(a0, .inr (5, [.ref a1, w0_1, w0_2, w0_3, w0_4, .ref a6, w0_6, w0_7, w0_8, w0_9, w0_10, w0_11, w0_12])), (a1, .inl (cI, 99, .inl f1)), (a6, .inl (cI, 4, .inl f6))] sz)) 0 0 (va_A [(a0, .inr (5, [.ref a1, w0_1, w0_2, w0_3, w0_4, .ref a6, w0_6, w0_7, w0_8, w0_9, w0_10, w0_11, w0_12])), (a1, .inl (cI, 99, .inl f1)), (a6, .inl (cI, 4, .inl f6))] sz) := by
  refine Met.ofW (cc := cX5_puts) (maxL := 3) (ret := none) (by decide) rfl ?_
  intro p e s m args below meth c s₁ B hml hv
  obtain ⟨rfl, hsz, hP, hD0, hKU⟩ := hv
  have hx := B.exec
  have hb := B.bytes
  have hr := B.returns
  have hts := atoms_spec (ws := wsX5_puts) B.pre
  have hown : s.vm.findClass RX5 = some m.cls := findClass_of_methodNamed B.named
  have hlocks := B.notSynchronized
  have hK := hKU.1
  have hf_7 := hts (.fieldLink RX5 7 "ThinnedPotsModel" "s" "[I") (by decide +kernel)
  have hi_X5 : ∀ w ∈ u_ws RX5 TX5 13, w ∈ wsX5_puts := by decide +kernel
  have hf_26 := hts (.fieldLink RX5 26 "ThinnedPotsModel" "taken" "[I") (by decide +kernel)
  subst hsz
  have hD := hD0.self (sz := s.heap.size)
  generalize hAe : va_A [(a0, .inr (5, [.ref a1, w0_1, w0_2, w0_3, w0_4, .ref a6, w0_6, w0_7, w0_8, w0_9, w0_10, w0_11, w0_12])), (a1, .inl (cI, 99, .inl f1)), (a6, .inl (cI, 4, .inl f6))] s.heap.size = A at hD ⊢
  have hA : ∀ q : Nat, s.heap.size ≤ q → A q := fun q h => by rw [← hAe]; exact Or.inr h
  have hP : va_P D vwCl [(a0, .inr (5, [.ref a1, w0_1, w0_2, w0_3, w0_4, .ref a6, w0_6, w0_7, w0_8, w0_9, w0_10, w0_11, w0_12])), (a1, .inl (cI, 99, .inl f1)), (a6, .inl (cI, 4, .inl f6))] s.heap := hP
  generalize hHe : s.heap = H at hP ⊢
  have hS : va_S A s.heap H [] := by rw [hHe]; exact va_S.rf
  have hl := lv_entry ([.ref a0, .int u1]) (n := 3) (Nat.le_of_ble_eq_true rfl)
  rw [lg_entry_eq]
  generalize (lg_sl ([.ref a0, .int u1]) ++ List.replicate (3 - (lg_sl ([.ref a0, .int u1])).length) Slot.unset).toArray = ls at hl ⊢
  have hl : lv_has ls 3 [(0, .ref a0), (1, .int u1)] := hl
  unfold s_X5_puts at hsp
  refine lv_iconst (v := 0) hx hb dX5_puts_0 (by decide) ?_
  refine lv_istore_n (lv' := [(2, .int 0), (0, .ref a0), (1, .int u1)]) hx hb dX5_puts_1 rfl hl (by decide) rfl (fun ls hl => ?_)
  refine ex_rule (D := D) (K := s_X5_puts_X1) (P := fun (t1 : (Nat → Int32)) => [(a0, .inr (5, [.ref a1, w0_1, w0_2, w0_3, w0_4, .ref a6, w0_6, w0_7, w0_8, w0_9, w0_10, w0_11, w0_12])), (a1, .inl (cI, 99, .inl t1)), (a6, .inl (cI, 4, .inl f6))]) (L := fun (t1 : (Nat → Int32)) => []) (nL := 3) (pcx := 30) (res := res) (A := A) (H0 := s.heap) ?_ (fun hx1 => ?_)
  · intro t1 H locs hsp hP hD hS ls hl
    obtain ⟨y3, rfl⟩ : ∃ z, z = t1 := ⟨_, rfl⟩
    unfold s_X5_puts_X1 at hsp; try dsimp only at hsp
    have hP : va_P D vwCl [(a0, .inr (5, [.ref a1, w0_1, w0_2, w0_3, w0_4, .ref a6, w0_6, w0_7, w0_8, w0_9, w0_10, w0_11, w0_12])), (a1, .inl (cI, 99, .inl y3)), (a6, .inl (cI, 4, .inl f6))] H := hP
    have hD : va_D A [(a0, .inr (5, [.ref a1, w0_1, w0_2, w0_3, w0_4, .ref a6, w0_6, w0_7, w0_8, w0_9, w0_10, w0_11, w0_12])), (a1, .inl (cI, 99, .inl y3)), (a6, .inl (cI, 4, .inl f6))] := hD
    have hl : lv_has ls 3 [] := hl
    have hres := Option.some.inj hsp
    subst hres
    exact W.vret hx hb hr (fun t ht hW => ⟨⟨(), rfl, trivial, P_at ht hP⟩, hS.F ht⟩) hS.2.2 dX5_puts_30
  have hl := lv_sub hl (l' := [(0, .ref a0), (1, .int u1), (2, .int 0)]) [1, 2, 0] rfl
  refine lp_rule (D := D) (F := s_X5_puts_L1 u1 f6 (s_X5_puts_X1)) (P := fun (tv : Int32 × (Nat → Int32)) => [(a0, .inr (5, [.ref a1, w0_1, w0_2, w0_3, w0_4, .ref a6, w0_6, w0_7, w0_8, w0_9, w0_10, w0_11, w0_12])), (a1, .inl (cI, 99, .inl tv.2)), (a6, .inl (cI, 4, .inl f6))]) (L := fun (tv : Int32 × (Nat → Int32)) => [(0, .ref a0), (1, .int u1), (2, .int tv.1)]) (nL := 3) (res := res) (A := A) (H0 := s.heap) (fun _ => rfl) ?_ 1000 (0, f1) _ _ hsp hP hD hS _ hl
  · intro n1 ih1 tv H locs hsp hP hD hS ls hl
    obtain ⟨x1, y2⟩ := tv
    have hsp : s_X5_puts_B1  u1 f6 (s_X5_puts_X1) (s_X5_puts_L1 u1 f6 (s_X5_puts_X1) n1) x1 y2 = some res := hsp
    unfold s_X5_puts_B1 at hsp
    have hP : va_P D vwCl [(a0, .inr (5, [.ref a1, w0_1, w0_2, w0_3, w0_4, .ref a6, w0_6, w0_7, w0_8, w0_9, w0_10, w0_11, w0_12])), (a1, .inl (cI, 99, .inl y2)), (a6, .inl (cI, 4, .inl f6))] H := hP
    have hD : va_D A [(a0, .inr (5, [.ref a1, w0_1, w0_2, w0_3, w0_4, .ref a6, w0_6, w0_7, w0_8, w0_9, w0_10, w0_11, w0_12])), (a1, .inl (cI, 99, .inl y2)), (a6, .inl (cI, 4, .inl f6))] := hD
    have hl : lv_has ls 3 [(0, .ref a0), (1, .int u1), (2, .int x1)] := hl
    refine lv_iload_n hx hb dX5_puts_2 rfl (lv_at hl 2 rfl) ?_
    refine lv_iconst (v := 4) hx hb dX5_puts_3 (by decide) ?_
    refine lv_icmp_ge (tgt := 30) hx hb dX5_puts_4 (by decide) (fun c4 => ?_) (fun c4 => ?_)
    · have hsp := itT hsp c4
      exact hx1 y2 _ _ hsp hP hD hS _ (lv_sub hl [] rfl)
    have hsp := itF hsp c4
    refine lv_aload_n hx hb dX5_puts_7 rfl (lv_at hl 0 rfl) ?_
    refine va_get (D := D) (ci := 5) (v := .ref a1) (C := RX5) (T := TX5) (N := 13) hx hb hts hi_X5 hown hK hP 0 rfl rfl 0 (by decide) hf_7 (fun _ h9 => h9) rfl dX5_puts_8 ?_
    refine lv_iload_n hx hb dX5_puts_11 rfl (lv_at hl 1 rfl) ?_
    refine lv_iload_n hx hb dX5_puts_12 rfl (lv_at hl 2 rfl) ?_
    refine lv_iadd hx hb dX5_puts_13 ?_
    refine lv_dup2_11 hx hb dX5_puts_14 rfl rfl ?_
    obtain ⟨x5, ex5, hnx5, hsp⟩ := ldE hsp
    refine r_iald hx hb hK hP 1 0 rfl rfl ex5 hnx5 dX5_puts_15 ?_
    refine lv_aload_n hx hb dX5_puts_16 rfl (lv_at hl 0 rfl) ?_
    refine va_get (D := D) (ci := 5) (v := .ref a6) (C := RX5) (T := TX5) (N := 13) hx hb hts hi_X5 hown hK hP 0 rfl rfl 5 (by decide) hf_26 (fun _ h9 => h9) rfl dX5_puts_17 ?_
    refine lv_iload_n hx hb dX5_puts_20 rfl (lv_at hl 2 rfl) ?_
    obtain ⟨x6, ex6, hnx6, hsp⟩ := ldE hsp
    refine r_iald hx hb hK hP 2 0 rfl rfl ex6 hnx6 dX5_puts_21 ?_
    refine lv_iadd hx hb dX5_puts_22 ?_
    obtain ⟨x7, ex7, hsp⟩ := nmE hsp
    refine r_top ex7 ?_
    obtain ⟨y8, ey8, hny8, hsp⟩ := stoE hsp
    refine r_iast (ws' := [(a0, .inr (5, [.ref a1, w0_1, w0_2, w0_3, w0_4, .ref a6, w0_6, w0_7, w0_8, w0_9, w0_10, w0_11, w0_12])), (a1, .inl (cI, 99, .inl y8)), (a6, .inl (cI, 4, .inl f6))]) hx hb hK hP hD hS 1 0 rfl rfl ey8 hny8 rfl dX5_puts_23 (fun H locs hP hD hS => ?_)
    obtain ⟨x9, ex9, hsp⟩ := nmE hsp
    refine lv_iinc (k := 2) (v := x9) (lv' := [(2, .int x9), (0, .ref a0), (1, .int u1)]) hx hb dX5_puts_24 hl rfl (by rw [ex9]; rfl) (by decide) rfl (fun ls hl => ?_)
    refine lv_goto (tgt := 2) hx hb dX5_puts_27 (by decide) ?_
    exact ih1 (x9, y8) _ _ hsp hP hD hS _ (lv_sub hl [1, 2, 0] rfl)

theorem nd_X5_dips : yX5_dips.cls = RX5 ∧ yX5_dips.cls ≠ "java/lang/invoke/MethodHandle" ∧ yX5_dips.cls ≠ "java/lang/invoke/VarHandle" ∧ (parseMethodDescriptor yX5_dips.desc).map (fun d => d.parameters.length) = some 2 := by decide +kernel
set_option maxHeartbeats 8000000 in
set_option maxRecDepth 100000 in
theorem k_X5_dips (l : Launch) (D : va_G) (cI cZ cC cS : ClassId) (sz : Nat) (a0 a1 a6 : Nat) (w0_1 : Value) (w0_2 : Value) (w0_3 : Value) (w0_4 : Value) (w0_6 : Value) (w0_7 : Value) (w0_8 : Value) (w0_9 : Value) (w0_10 : Value) (w0_11 : Value) (w0_12 : Value) (f1 : Nat → Int32) (f6 : Nat → Int32) (u1 : Int32) (u2 : Int32) (res : Int32 × (Nat → Int32) × (Nat → Int32)) (hsp : s_X5_dips f1 f6 u1 u2 = some res) : Met l yX5_dips wsX5_dips ({ frames := 3, cells := 0, slots := 0, locals := 76 }) (va_Pc [.ref a0, .int u1, .int u2] (PB D cI cZ cC cS [(a0, .inr (5, [.ref a1, w0_1, w0_2, w0_3, w0_4, .ref a6, w0_6, w0_7, w0_8, w0_9, w0_10, w0_11, w0_12])), (a1, .inl (cI, 99, .inl f1)), (a6, .inl (cI, 4, .inl f6))] sz)) (va_Qi (fun r (_ : Unit) => r = res.1) (fun _ t => va_P D vwCl [(a0, .inr (5, [.ref a1, w0_1, w0_2, w0_3, w0_4, .ref a6, w0_6, w0_7, w0_8, w0_9, w0_10, w0_11, w0_12])), (a1, .inl (cI, 99, .inl res.2.1)), (a6, .inl (cI, 4, .inl res.2.2))] t.heap) (va_A [(a0, .inr (5, [.ref a1, w0_1, w0_2, w0_3, w0_4, .ref a6, w0_6, w0_7, w0_8, w0_9, w0_10, w0_11, w0_12])), (a1, .inl (cI, 99, .inl f1)), (a6, .inl (cI, 4, .inl f6))] sz)) 0 0 (va_A [(a0, .inr (5, [.ref a1, w0_1, w0_2, w0_3, w0_4, .ref a6, w0_6, w0_7, w0_8, w0_9, w0_10, w0_11, w0_12])), (a1, .inl (cI, 99, .inl f1)), (a6, .inl (cI, 4, .inl f6))] sz) := by
  refine Met.ofW (cc := cX5_dips) (maxL := 3) (ret := (some .int)) (by decide) rfl ?_
  intro p e s m args below meth c s₁ B hml hv
  obtain ⟨rfl, hsz, hP, hD0, hKU⟩ := hv
  have hx := B.exec
  have hb := B.bytes
  have hr := B.returns
  have hts := atoms_spec (ws := wsX5_dips) B.pre
  have hown : s.vm.findClass RX5 = some m.cls := findClass_of_methodNamed B.named
  have hlocks := B.notSynchronized
  have hK := hKU.1
  subst hsz
  have hD := hD0.self (sz := s.heap.size)
  generalize hAe : va_A [(a0, .inr (5, [.ref a1, w0_1, w0_2, w0_3, w0_4, .ref a6, w0_6, w0_7, w0_8, w0_9, w0_10, w0_11, w0_12])), (a1, .inl (cI, 99, .inl f1)), (a6, .inl (cI, 4, .inl f6))] s.heap.size = A at hD ⊢
  have hA : ∀ q : Nat, s.heap.size ≤ q → A q := fun q h => by rw [← hAe]; exact Or.inr h
  have hP : va_P D vwCl [(a0, .inr (5, [.ref a1, w0_1, w0_2, w0_3, w0_4, .ref a6, w0_6, w0_7, w0_8, w0_9, w0_10, w0_11, w0_12])), (a1, .inl (cI, 99, .inl f1)), (a6, .inl (cI, 4, .inl f6))] s.heap := hP
  generalize hHe : s.heap = H at hP ⊢
  have hS : va_S A s.heap H [] := by rw [hHe]; exact va_S.rf
  have hl := lv_entry ([.ref a0, .int u1, .int u2]) (n := 3) (Nat.le_of_ble_eq_true rfl)
  rw [lg_entry_eq]
  generalize (lg_sl ([.ref a0, .int u1, .int u2]) ++ List.replicate (3 - (lg_sl ([.ref a0, .int u1, .int u2])).length) Slot.unset).toArray = ls at hl ⊢
  have hl : lv_has ls 3 [(0, .ref a0), (1, .int u1), (2, .int u2)] := hl
  unfold s_X5_dips at hsp
  refine lv_iload_n hx hb dX5_dips_0 rfl (lv_at hl 1 rfl) ?_
  obtain ⟨r1, hcr1, hsp⟩ := clE hsp
  refine call_z (w1 := []) (ws' := [(a0, .inr (5, [.ref a1, w0_1, w0_2, w0_3, w0_4, .ref a6, w0_6, w0_7, w0_8, w0_9, w0_10, w0_11, w0_12])), (a1, .inl (cI, 99, .inl f1)), (a6, .inl (cI, 4, .inl f6))]) (va_runS (As := [.int u1]) (rest := []) ⟨hx, hb, hml, hown, hts⟩ (k_X5_isPot l D cI cZ cC cS H.size u1 r1 hcr1) (va_cwS 1 hts gX5_dips_X5_isPot rfl rfl rfl nd_X5_isPot.2 ⟨Nat.le_of_ble_eq_true rfl, Nat.le_of_ble_eq_true rfl⟩) (PB.preS hKU hP hD [] rfl rfl) rfl rfl hl.1 rfl (lv_room (Nat.le_of_ble_eq_true rfl)) dX5_dips_1 ⟨Nat.zero_le _, Nat.zero_le _⟩) hS hP hD hA [] rfl rfl (by first | (simp only [wset, List.set_cons_zero, List.set_cons_succ]; done) | rfl) rfl (fun H locs hP hD hS hzr1 => ?_)
  refine lv_if_ne (tgt := 9) hx hb dX5_dips_4 (by decide) (fun c2 => ?_) (fun c2 => ?_)
  · have hsp := itF hsp c2
    refine lv_iload_n hx hb dX5_dips_9 rfl (lv_at hl 2 rfl) ?_
    refine lv_iconst (v := 1) hx hb dX5_dips_10 (by decide) ?_
    refine lv_bipush (v := 9) hx hb dX5_dips_11 (by decide) ?_
    obtain ⟨r3, hcr3, hsp⟩ := clE hsp
    refine call_z (w1 := []) (ws' := [(a0, .inr (5, [.ref a1, w0_1, w0_2, w0_3, w0_4, .ref a6, w0_6, w0_7, w0_8, w0_9, w0_10, w0_11, w0_12])), (a1, .inl (cI, 99, .inl f1)), (a6, .inl (cI, 4, .inl f6))]) (va_runS (As := [.int u2, .int 1, .int 9]) (rest := []) ⟨hx, hb, hml, hown, hts⟩ (k_X5_in l D cI cZ cC cS H.size u2 1 9 r3 hcr3) (va_cwS 3 hts gX5_dips_X5_in rfl rfl rfl nd_X5_in.2 ⟨Nat.le_of_ble_eq_true rfl, Nat.le_of_ble_eq_true rfl⟩) (PB.preS hKU hP hD [] rfl rfl) rfl rfl hl.1 rfl (lv_room (Nat.le_of_ble_eq_true rfl)) dX5_dips_13 ⟨Nat.zero_le _, Nat.zero_le _⟩) hS hP hD hA [] rfl rfl (by first | (simp only [wset, List.set_cons_zero, List.set_cons_succ]; done) | rfl) rfl (fun H locs hP hD hS hzr3 => ?_)
    refine lv_if_ne (tgt := 22) hx hb dX5_dips_16 (by decide) (fun c4 => ?_) (fun c4 => ?_)
    · have hsp := itF hsp c4
      refine lv_aload_n hx hb dX5_dips_22 rfl (lv_at hl 0 rfl) ?_
      refine lv_iload_n hx hb dX5_dips_23 rfl (lv_at hl 1 rfl) ?_
      obtain ⟨r5, hcr5, hsp⟩ := clE hsp
      refine call_i (w1 := []) (ws' := [(a0, .inr (5, [.ref a1, w0_1, w0_2, w0_3, w0_4, .ref a6, w0_6, w0_7, w0_8, w0_9, w0_10, w0_11, w0_12])), (a1, .inl (cI, 99, .inl f1)), (a6, .inl (cI, 4, .inl f6))]) (va_runS (As := [.int u1]) (rest := [.ref a0]) ⟨hx, hb, hml, hown, hts⟩ (k_X5_p l D cI cZ cC cS H.size u1 r5 hcr5) (va_cwS 1 hts gX5_dips_X5_p rfl rfl rfl nd_X5_p.2 ⟨Nat.le_of_ble_eq_true rfl, Nat.le_of_ble_eq_true rfl⟩) (PB.preS hKU hP hD [] rfl rfl) rfl rfl hl.1 rfl (lv_room (Nat.le_of_ble_eq_true rfl)) dX5_dips_24 ⟨Nat.zero_le _, Nat.zero_le _⟩) hS hP hD hA [] rfl rfl (by first | (simp only [wset, List.set_cons_zero, List.set_cons_succ]; done) | rfl) rfl (fun H locs hP hD hS => ?_)
      obtain ⟨r6, hcr6, hsp⟩ := clE hsp
      refine call_i (w1 := [(a0, .inr (5, [.ref a1, w0_1, w0_2, w0_3, w0_4, .ref a6, w0_6, w0_7, w0_8, w0_9, w0_10, w0_11, w0_12])), (a1, .inl (cI, 99, .inl f1))]) (ws' := [(a0, .inr (5, [.ref a1, w0_1, w0_2, w0_3, w0_4, .ref a6, w0_6, w0_7, w0_8, w0_9, w0_10, w0_11, w0_12])), (a1, .inl (cI, 99, .inl f1)), (a6, .inl (cI, 4, .inl f6))]) (va_runV (As := [.int r5]) (rest := []) ⟨hx, hb, hml, hown, hts⟩ (k_X5_drops l D cI cZ cC cS H.size a0 a1 (w0_1) (w0_2) (w0_3) (w0_4) (.ref a6) (w0_6) (w0_7) (w0_8) (w0_9) (w0_10) (w0_11) (w0_12) f1 r5 r6 hcr6) (cwV 1 hts gX5_dips_X5_drops rfl rfl rfl nd_X5_drops ⟨Nat.le_of_ble_eq_true rfl, Nat.le_of_ble_eq_true rfl⟩) (PB.preV (ci := 5) (q0 := 0) hKU hP hD [0, 1] rfl rfl rfl rfl) rfl rfl hl.1 rfl (lv_room (Nat.le_of_ble_eq_true rfl)) dX5_dips_27 ⟨Nat.zero_le _, Nat.zero_le _⟩) hS hP hD hA [0, 1] rfl rfl (by first | (simp only [wset, List.set_cons_zero, List.set_cons_succ]; done) | rfl) rfl (fun H locs hP hD hS => ?_)
      refine lv_iload_n hx hb dX5_dips_30 rfl (lv_at hl 2 rfl) ?_
      refine lv_icmp_ge (tgt := 37) hx hb dX5_dips_31 (by decide) (fun c7 => ?_) (fun c7 => ?_)
      · have hsp := itT hsp c7
        refine lv_aload_n hx hb dX5_dips_37 rfl (lv_at hl 0 rfl) ?_
        refine lv_bipush (v := 47) hx hb dX5_dips_38 (by decide) ?_
        obtain ⟨r8, hcr8, hsp⟩ := clE hsp
        refine call_i (w1 := [(a0, .inr (5, [.ref a1, w0_1, w0_2, w0_3, w0_4, .ref a6, w0_6, w0_7, w0_8, w0_9, w0_10, w0_11, w0_12])), (a1, .inl (cI, 99, .inl f1))]) (ws' := [(a0, .inr (5, [.ref a1, w0_1, w0_2, w0_3, w0_4, .ref a6, w0_6, w0_7, w0_8, w0_9, w0_10, w0_11, w0_12])), (a1, .inl (cI, 99, .inl f1)), (a6, .inl (cI, 4, .inl f6))]) (va_runV (As := [.int 47]) (rest := []) ⟨hx, hb, hml, hown, hts⟩ (k_X5_drops l D cI cZ cC cS H.size a0 a1 (w0_1) (w0_2) (w0_3) (w0_4) (.ref a6) (w0_6) (w0_7) (w0_8) (w0_9) (w0_10) (w0_11) (w0_12) f1 47 r8 hcr8) (cwV 1 hts gX5_dips_X5_drops rfl rfl rfl nd_X5_drops ⟨Nat.le_of_ble_eq_true rfl, Nat.le_of_ble_eq_true rfl⟩) (PB.preV (ci := 5) (q0 := 0) hKU hP hD [0, 1] rfl rfl rfl rfl) rfl rfl hl.1 rfl (lv_room (Nat.le_of_ble_eq_true rfl)) dX5_dips_40 ⟨Nat.zero_le _, Nat.zero_le _⟩) hS hP hD hA [0, 1] rfl rfl (by first | (simp only [wset, List.set_cons_zero, List.set_cons_succ]; done) | rfl) rfl (fun H locs hP hD hS => ?_)
        refine lv_iload_n hx hb dX5_dips_43 rfl (lv_at hl 2 rfl) ?_
        refine lv_iadd hx hb dX5_dips_44 ?_
        refine lv_bipush (v := 9) hx hb dX5_dips_45 (by decide) ?_
        refine lv_icmp_le (tgt := 53) hx hb dX5_dips_47 (by decide) (fun c9 => ?_) (fun c9 => ?_)
        · have hsp := itT hsp c9
          refine lv_aload_n hx hb dX5_dips_53 rfl (lv_at hl 0 rfl) ?_
          refine lv_iload_n hx hb dX5_dips_54 rfl (lv_at hl 1 rfl) ?_
          obtain ⟨r10, hcr10, hsp⟩ := clE hsp
          refine call_i (w1 := []) (ws' := [(a0, .inr (5, [.ref a1, w0_1, w0_2, w0_3, w0_4, .ref a6, w0_6, w0_7, w0_8, w0_9, w0_10, w0_11, w0_12])), (a1, .inl (cI, 99, .inl f1)), (a6, .inl (cI, 4, .inl f6))]) (va_runS (As := [.int u1]) (rest := [.ref a0]) ⟨hx, hb, hml, hown, hts⟩ (k_X5_p l D cI cZ cC cS H.size u1 r10 hcr10) (va_cwS 1 hts gX5_dips_X5_p rfl rfl rfl nd_X5_p.2 ⟨Nat.le_of_ble_eq_true rfl, Nat.le_of_ble_eq_true rfl⟩) (PB.preS hKU hP hD [] rfl rfl) rfl rfl hl.1 rfl (lv_room (Nat.le_of_ble_eq_true rfl)) dX5_dips_55 ⟨Nat.zero_le _, Nat.zero_le _⟩) hS hP hD hA [] rfl rfl (by first | (simp only [wset, List.set_cons_zero, List.set_cons_succ]; done) | rfl) rfl (fun H locs hP hD hS => ?_)
          refine lv_iload_n hx hb dX5_dips_58 rfl (lv_at hl 2 rfl) ?_
          obtain ⟨r11, hcr11, hsp⟩ := clE hsp
          refine call_v (w1 := [(a0, .inr (5, [.ref a1, w0_1, w0_2, w0_3, w0_4, .ref a6, w0_6, w0_7, w0_8, w0_9, w0_10, w0_11, w0_12])), (a1, .inl (cI, 99, .inl r11.1)), (a6, .inl (cI, 4, .inl r11.2))]) (ws' := [(a0, .inr (5, [.ref a1, w0_1, w0_2, w0_3, w0_4, .ref a6, w0_6, w0_7, w0_8, w0_9, w0_10, w0_11, w0_12])), (a1, .inl (cI, 99, .inl r11.1)), (a6, .inl (cI, 4, .inl r11.2))]) (va_runV (As := [.int r10, .int u2]) (rest := []) ⟨hx, hb, hml, hown, hts⟩ (k_X5_takes l D cI cZ cC cS H.size a0 a1 a6 (w0_1) (w0_2) (w0_3) (w0_4) (w0_6) (w0_7) (w0_8) (w0_9) (w0_10) (w0_11) (w0_12) f1 f6 r10 u2 r11 hcr11) (cwV 2 hts gX5_dips_X5_takes rfl rfl rfl nd_X5_takes ⟨Nat.le_of_ble_eq_true rfl, Nat.le_of_ble_eq_true rfl⟩) (PB.preV (ci := 5) (q0 := 0) hKU hP hD [0, 1, 2] rfl rfl rfl rfl) rfl rfl hl.1 rfl (lv_room (Nat.le_of_ble_eq_true rfl)) dX5_dips_59 ⟨Nat.zero_le _, Nat.zero_le _⟩) hS hP hD hA [0, 1, 2] rfl rfl (by first | (simp only [wset, List.set_cons_zero, List.set_cons_succ]; done) | rfl) rfl (fun H locs hP hD hS => ?_)
          refine lv_aload_n hx hb dX5_dips_62 rfl (lv_at hl 0 rfl) ?_
          refine lv_bipush (v := 47) hx hb dX5_dips_63 (by decide) ?_
          obtain ⟨r12, hcr12, hsp⟩ := clE hsp
          refine call_v (w1 := [(a0, .inr (5, [.ref a1, w0_1, w0_2, w0_3, w0_4, .ref a6, w0_6, w0_7, w0_8, w0_9, w0_10, w0_11, w0_12])), (a1, .inl (cI, 99, .inl r12)), (a6, .inl (cI, 4, .inl r11.2))]) (ws' := [(a0, .inr (5, [.ref a1, w0_1, w0_2, w0_3, w0_4, .ref a6, w0_6, w0_7, w0_8, w0_9, w0_10, w0_11, w0_12])), (a1, .inl (cI, 99, .inl r12)), (a6, .inl (cI, 4, .inl r11.2))]) (va_runV (As := [.int 47]) (rest := []) ⟨hx, hb, hml, hown, hts⟩ (k_X5_puts l D cI cZ cC cS H.size a0 a1 a6 (w0_1) (w0_2) (w0_3) (w0_4) (w0_6) (w0_7) (w0_8) (w0_9) (w0_10) (w0_11) (w0_12) r11.1 r11.2 47 r12 hcr12) (cwV 1 hts gX5_dips_X5_puts rfl rfl rfl nd_X5_puts ⟨Nat.le_of_ble_eq_true rfl, Nat.le_of_ble_eq_true rfl⟩) (PB.preV (ci := 5) (q0 := 0) hKU hP hD [0, 1, 2] rfl rfl rfl rfl) rfl rfl hl.1 rfl (lv_room (Nat.le_of_ble_eq_true rfl)) dX5_dips_65 ⟨Nat.zero_le _, Nat.zero_le _⟩) hS hP hD hA [0, 1, 2] rfl rfl (by first | (simp only [wset, List.set_cons_zero, List.set_cons_succ]; done) | rfl) rfl (fun H locs hP hD hS => ?_)
          refine lv_aload_n hx hb dX5_dips_68 rfl (lv_at hl 0 rfl) ?_
          refine lv_bipush (v := 47) hx hb dX5_dips_69 (by decide) ?_
          obtain ⟨r13, hcr13, hsp⟩ := clE hsp
          refine call_i (w1 := [(a0, .inr (5, [.ref a1, w0_1, w0_2, w0_3, w0_4, .ref a6, w0_6, w0_7, w0_8, w0_9, w0_10, w0_11, w0_12])), (a1, .inl (cI, 99, .inl r12))]) (ws' := [(a0, .inr (5, [.ref a1, w0_1, w0_2, w0_3, w0_4, .ref a6, w0_6, w0_7, w0_8, w0_9, w0_10, w0_11, w0_12])), (a1, .inl (cI, 99, .inl r12)), (a6, .inl (cI, 4, .inl r11.2))]) (va_runV (As := [.int 47]) (rest := []) ⟨hx, hb, hml, hown, hts⟩ (k_X5_drops l D cI cZ cC cS H.size a0 a1 (w0_1) (w0_2) (w0_3) (w0_4) (.ref a6) (w0_6) (w0_7) (w0_8) (w0_9) (w0_10) (w0_11) (w0_12) r12 47 r13 hcr13) (cwV 1 hts gX5_dips_X5_drops rfl rfl rfl nd_X5_drops ⟨Nat.le_of_ble_eq_true rfl, Nat.le_of_ble_eq_true rfl⟩) (PB.preV (ci := 5) (q0 := 0) hKU hP hD [0, 1] rfl rfl rfl rfl) rfl rfl hl.1 rfl (lv_room (Nat.le_of_ble_eq_true rfl)) dX5_dips_71 ⟨Nat.zero_le _, Nat.zero_le _⟩) hS hP hD hA [0, 1] rfl rfl (by first | (simp only [wset, List.set_cons_zero, List.set_cons_succ]; done) | rfl) rfl (fun H locs hP hD hS => ?_)
          have hres := Option.some.inj hsp
          subst hres
          exact W.iret (v := r13) hx hb hr (fun t ht hW => ⟨⟨r13, (), rfl, rfl, P_at ht hP⟩, hS.F ht⟩) hS.2.2 dX5_dips_74
        have hsp := itF hsp c9
        refine lv_bipush (v := (-4)) hx hb dX5_dips_50 (by decide) ?_
        have hres := Option.some.inj hsp
        subst hres
        exact W.iret (v := (-4)) hx hb hr (fun t ht hW => ⟨⟨(-4), (), rfl, rfl, P_at ht hP⟩, hS.F ht⟩) hS.2.2 dX5_dips_52
      have hsp := itF hsp c7
      refine lv_bipush (v := (-5)) hx hb dX5_dips_34 (by decide) ?_
      have hres := Option.some.inj hsp
      subst hres
      exact W.iret (v := (-5)) hx hb hr (fun t ht hW => ⟨⟨(-5), (), rfl, rfl, P_at ht hP⟩, hS.F ht⟩) hS.2.2 dX5_dips_36
    have hsp := itT hsp c4
    refine lv_bipush (v := (-2)) hx hb dX5_dips_19 (by decide) ?_
    have hres := Option.some.inj hsp
    subst hres
    exact W.iret (v := (-2)) hx hb hr (fun t ht hW => ⟨⟨(-2), (), rfl, rfl, P_at ht hP⟩, hS.F ht⟩) hS.2.2 dX5_dips_21
  have hsp := itT hsp c2
  refine lv_iconst (v := (-1)) hx hb dX5_dips_7 (by decide) ?_
  have hres := Option.some.inj hsp
  subst hres
  exact W.iret (v := (-1)) hx hb hr (fun t ht hW => ⟨⟨(-1), (), rfl, rfl, P_at ht hP⟩, hS.F ht⟩) hS.2.2 dX5_dips_8

theorem nd_X5_recorded : yX5_recorded.cls = RX5 ∧ yX5_recorded.cls ≠ "java/lang/invoke/MethodHandle" ∧ yX5_recorded.cls ≠ "java/lang/invoke/VarHandle" ∧ (parseMethodDescriptor yX5_recorded.desc).map (fun d => d.parameters.length) = some 1 := by decide +kernel
set_option maxHeartbeats 8000000 in
set_option maxRecDepth 100000 in
theorem k_X5_recorded (l : Launch) (D : va_G) (cI cZ cC cS : ClassId) (sz : Nat) (a0 a2 a3 : Nat) (w0_0 : Value) (w0_3 : Value) (w0_4 : Value) (w0_5 : Value) (w0_6 : Value) (w0_7 : Value) (w0_8 : Value) (w0_9 : Value) (g0_10 : Int32) (w0_11 : Value) (w0_12 : Value) (f2 : Nat → Int32) (f3 : Nat → Int32) (u1 : Int32) (res : Int32 × Int32 × (Nat → Int32)) (hsp : s_X5_recorded g0_10 f2 f3 u1 = some res) : Met l yX5_recorded wsX5_recorded ({ frames := 0, cells := 0, slots := 0, locals := 0 }) (va_Pc [.ref a0, .int u1] (PB D cI cZ cC cS [(a0, .inr (5, [w0_0, .ref a2, .ref a3, w0_3, w0_4, w0_5, w0_6, w0_7, w0_8, w0_9, .int g0_10, w0_11, w0_12])), (a2, .inl (cI, 99, .inl f2)), (a3, .inl (cI, 594, .inl f3))] sz)) (va_Qi (fun r (_ : Unit) => r = res.1) (fun _ t => va_P D vwCl [(a0, .inr (5, [w0_0, .ref a2, .ref a3, w0_3, w0_4, w0_5, w0_6, w0_7, w0_8, w0_9, .int res.2.1, w0_11, w0_12])), (a2, .inl (cI, 99, .inl f2)), (a3, .inl (cI, 594, .inl res.2.2))] t.heap) (va_A [(a0, .inr (5, [w0_0, .ref a2, .ref a3, w0_3, w0_4, w0_5, w0_6, w0_7, w0_8, w0_9, .int g0_10, w0_11, w0_12])), (a2, .inl (cI, 99, .inl f2)), (a3, .inl (cI, 594, .inl f3))] sz)) 0 0 (va_A [(a0, .inr (5, [w0_0, .ref a2, .ref a3, w0_3, w0_4, w0_5, w0_6, w0_7, w0_8, w0_9, .int g0_10, w0_11, w0_12])), (a2, .inl (cI, 99, .inl f2)), (a3, .inl (cI, 594, .inl f3))] sz) := by
  refine Met.ofW (cc := cX5_recorded) (maxL := 3) (ret := (some .int)) (by decide) rfl ?_
  intro p e s m args below meth c s₁ B hml hv
  obtain ⟨rfl, hsz, hP, hD0, hKU⟩ := hv
  have hx := B.exec
  have hb := B.bytes
  have hr := B.returns
  have hts := atoms_spec (ws := wsX5_recorded) B.pre
  have hown : s.vm.findClass RX5 = some m.cls := findClass_of_methodNamed B.named
  have hlocks := B.notSynchronized
  have hK := hKU.1
  have hf_43 := hts (.fieldLink RX5 43 "ThinnedPotsModel" "states" "I") (by decide +kernel)
  have hi_X5 : ∀ w ∈ u_ws RX5 TX5 13, w ∈ wsX5_recorded := by decide +kernel
  have hf_16 := hts (.fieldLink RX5 16 "ThinnedPotsModel" "before" "[I") (by decide +kernel)
  have hf_13 := hts (.fieldLink RX5 13 "ThinnedPotsModel" "spare" "[I") (by decide +kernel)
  subst hsz
  have hD := hD0.self (sz := s.heap.size)
  generalize hAe : va_A [(a0, .inr (5, [w0_0, .ref a2, .ref a3, w0_3, w0_4, w0_5, w0_6, w0_7, w0_8, w0_9, .int g0_10, w0_11, w0_12])), (a2, .inl (cI, 99, .inl f2)), (a3, .inl (cI, 594, .inl f3))] s.heap.size = A at hD ⊢
  have hA : ∀ q : Nat, s.heap.size ≤ q → A q := fun q h => by rw [← hAe]; exact Or.inr h
  have hP : va_P D vwCl [(a0, .inr (5, [w0_0, .ref a2, .ref a3, w0_3, w0_4, w0_5, w0_6, w0_7, w0_8, w0_9, .int g0_10, w0_11, w0_12])), (a2, .inl (cI, 99, .inl f2)), (a3, .inl (cI, 594, .inl f3))] s.heap := hP
  generalize hHe : s.heap = H at hP ⊢
  have hS : va_S A s.heap H [] := by rw [hHe]; exact va_S.rf
  have hl := lv_entry ([.ref a0, .int u1]) (n := 3) (Nat.le_of_ble_eq_true rfl)
  rw [lg_entry_eq]
  generalize (lg_sl ([.ref a0, .int u1]) ++ List.replicate (3 - (lg_sl ([.ref a0, .int u1])).length) Slot.unset).toArray = ls at hl ⊢
  have hl : lv_has ls 3 [(0, .ref a0), (1, .int u1)] := hl
  unfold s_X5_recorded at hsp
  refine lv_iload_n hx hb dX5_recorded_0 rfl (lv_at hl 1 rfl) ?_
  refine lv_if_lt (tgt := 97) hx hb dX5_recorded_1 (by decide) (fun c1 => ?_) (fun c1 => ?_)
  · have hsp := itT hsp c1
    refine lv_iload_n hx hb dX5_recorded_97 rfl (lv_at hl 1 rfl) ?_
    have hres := Option.some.inj hsp
    subst hres
    exact W.iret (v := u1) hx hb hr (fun t ht hW => ⟨⟨u1, (), rfl, rfl, P_at ht hP⟩, hS.F ht⟩) hS.2.2 dX5_recorded_98
  have hsp := itF hsp c1
  refine lv_aload_n hx hb dX5_recorded_4 rfl (lv_at hl 0 rfl) ?_
  refine va_get (D := D) (ci := 5) (v := .int g0_10) (C := RX5) (T := TX5) (N := 13) hx hb hts hi_X5 hown hK hP 0 rfl rfl 10 (by decide) hf_43 (fun _ h9 => h9) rfl dX5_recorded_5 ?_
  refine lv_bipush (v := 6) hx hb dX5_recorded_8 (by decide) ?_
  refine lv_icmp_ne (tgt := 53) hx hb dX5_recorded_10 (by decide) (fun c2 => ?_) (fun c2 => ?_)
  · have hsp := itF hsp c2
    refine lv_iconst (v := 0) hx hb dX5_recorded_53 (by decide) ?_
    refine lv_istore_n (lv' := [(2, .int 0), (0, .ref a0), (1, .int u1)]) hx hb dX5_recorded_54 rfl hl (by decide) rfl (fun ls hl => ?_)
    refine ex_rule (D := D) (K := s_X5_recorded_X1 g0_10 u1) (P := fun (t1 : (Nat → Int32)) => [(a0, .inr (5, [w0_0, .ref a2, .ref a3, w0_3, w0_4, w0_5, w0_6, w0_7, w0_8, w0_9, .int g0_10, w0_11, w0_12])), (a2, .inl (cI, 99, .inl f2)), (a3, .inl (cI, 594, .inl t1))]) (L := fun (t1 : (Nat → Int32)) => [(0, .ref a0), (1, .int u1)]) (nL := 3) (pcx := 87) (res := res) (A := A) (H0 := s.heap) ?_ (fun hx1 => ?_)
    · intro t1 H locs hsp hP hD hS ls hl
      obtain ⟨y5, rfl⟩ : ∃ z, z = t1 := ⟨_, rfl⟩
      unfold s_X5_recorded_X1 at hsp; try dsimp only at hsp
      have hP : va_P D vwCl [(a0, .inr (5, [w0_0, .ref a2, .ref a3, w0_3, w0_4, w0_5, w0_6, w0_7, w0_8, w0_9, .int g0_10, w0_11, w0_12])), (a2, .inl (cI, 99, .inl f2)), (a3, .inl (cI, 594, .inl y5))] H := hP
      have hD : va_D A [(a0, .inr (5, [w0_0, .ref a2, .ref a3, w0_3, w0_4, w0_5, w0_6, w0_7, w0_8, w0_9, .int g0_10, w0_11, w0_12])), (a2, .inl (cI, 99, .inl f2)), (a3, .inl (cI, 594, .inl y5))] := hD
      have hl : lv_has ls 3 [(0, .ref a0), (1, .int u1)] := hl
      refine lv_aload_n hx hb dX5_recorded_87 rfl (lv_at hl 0 rfl) ?_
      refine lv_dup hx hb dX5_recorded_88 rfl ?_
      refine va_get (D := D) (ci := 5) (v := .int g0_10) (C := RX5) (T := TX5) (N := 13) hx hb hts hi_X5 hown hK hP 0 rfl rfl 10 (by decide) hf_43 (fun _ h9 => h9) rfl dX5_recorded_89 ?_
      refine lv_iconst (v := 1) hx hb dX5_recorded_92 (by decide) ?_
      refine lv_iadd hx hb dX5_recorded_93 ?_
      obtain ⟨x6, ex6, hsp⟩ := nmE hsp
      refine r_top ex6 ?_
      refine va_put (D := D) (ci := 5) (v := .int x6) (ty := .int) (C := RX5) (T := TX5) (N := 13) hx hb hts hi_X5 tyX5 tyX5_ok nmX5 hown hK hP hD hS 0 rfl rfl 10 (by decide) hf_43 (fun _ h9 => h9) rfl (by decide +kernel) rfl rfl (Nat.le_of_ble_eq_true rfl) dX5_recorded_94 (fun H locs hP hD hS => ?_)
      have hP : va_P D vwCl [(a0, .inr (5, [w0_0, .ref a2, .ref a3, w0_3, w0_4, w0_5, w0_6, w0_7, w0_8, w0_9, .int x6, w0_11, w0_12])), (a2, .inl (cI, 99, .inl f2)), (a3, .inl (cI, 594, .inl y5))] H := hP
      have hD : va_D A [(a0, .inr (5, [w0_0, .ref a2, .ref a3, w0_3, w0_4, w0_5, w0_6, w0_7, w0_8, w0_9, .int x6, w0_11, w0_12])), (a2, .inl (cI, 99, .inl f2)), (a3, .inl (cI, 594, .inl y5))] := hD
      refine lv_iload_n hx hb dX5_recorded_97 rfl (lv_at hl 1 rfl) ?_
      have hres := Option.some.inj hsp
      subst hres
      exact W.iret (v := u1) hx hb hr (fun t ht hW => ⟨⟨u1, (), rfl, rfl, P_at ht hP⟩, hS.F ht⟩) hS.2.2 dX5_recorded_98
    have hl := lv_sub hl (l' := [(0, .ref a0), (1, .int u1), (2, .int 0)]) [1, 2, 0] rfl
    refine lp_rule (D := D) (F := s_X5_recorded_L1 f2 g0_10 (s_X5_recorded_X1 g0_10 u1)) (P := fun (tv : Int32 × (Nat → Int32)) => [(a0, .inr (5, [w0_0, .ref a2, .ref a3, w0_3, w0_4, w0_5, w0_6, w0_7, w0_8, w0_9, .int g0_10, w0_11, w0_12])), (a2, .inl (cI, 99, .inl f2)), (a3, .inl (cI, 594, .inl tv.2))]) (L := fun (tv : Int32 × (Nat → Int32)) => [(0, .ref a0), (1, .int u1), (2, .int tv.1)]) (nL := 3) (res := res) (A := A) (H0 := s.heap) (fun _ => rfl) ?_ 1000 (0, f3) _ _ hsp hP hD hS _ hl
    · intro n1 ih1 tv H locs hsp hP hD hS ls hl
      obtain ⟨x3, y4⟩ := tv
      have hsp : s_X5_recorded_B1  f2 g0_10 (s_X5_recorded_X1 g0_10 u1) (s_X5_recorded_L1 f2 g0_10 (s_X5_recorded_X1 g0_10 u1) n1) x3 y4 = some res := hsp
      unfold s_X5_recorded_B1 at hsp
      have hP : va_P D vwCl [(a0, .inr (5, [w0_0, .ref a2, .ref a3, w0_3, w0_4, w0_5, w0_6, w0_7, w0_8, w0_9, .int g0_10, w0_11, w0_12])), (a2, .inl (cI, 99, .inl f2)), (a3, .inl (cI, 594, .inl y4))] H := hP
      have hD : va_D A [(a0, .inr (5, [w0_0, .ref a2, .ref a3, w0_3, w0_4, w0_5, w0_6, w0_7, w0_8, w0_9, .int g0_10, w0_11, w0_12])), (a2, .inl (cI, 99, .inl f2)), (a3, .inl (cI, 594, .inl y4))] := hD
      have hl : lv_has ls 3 [(0, .ref a0), (1, .int u1), (2, .int x3)] := hl
      refine lv_iload_n hx hb dX5_recorded_55 rfl (lv_at hl 2 rfl) ?_
      refine lv_bipush (v := 99) hx hb dX5_recorded_56 (by decide) ?_
      refine lv_icmp_ge (tgt := 87) hx hb dX5_recorded_58 (by decide) (fun c7 => ?_) (fun c7 => ?_)
      · have hsp := itT hsp c7
        exact hx1 y4 _ _ hsp hP hD hS _ (lv_sub hl [0, 1] rfl)
      have hsp := itF hsp c7
      refine lv_aload_n hx hb dX5_recorded_61 rfl (lv_at hl 0 rfl) ?_
      refine va_get (D := D) (ci := 5) (v := .ref a3) (C := RX5) (T := TX5) (N := 13) hx hb hts hi_X5 hown hK hP 0 rfl rfl 2 (by decide) hf_16 (fun _ h9 => h9) rfl dX5_recorded_62 ?_
      refine lv_bipush (v := 99) hx hb dX5_recorded_65 (by decide) ?_
      refine lv_aload_n hx hb dX5_recorded_67 rfl (lv_at hl 0 rfl) ?_
      refine va_get (D := D) (ci := 5) (v := .int g0_10) (C := RX5) (T := TX5) (N := 13) hx hb hts hi_X5 hown hK hP 0 rfl rfl 10 (by decide) hf_43 (fun _ h9 => h9) rfl dX5_recorded_68 ?_
      refine lv_imul hx hb dX5_recorded_71 ?_
      refine lv_iload_n hx hb dX5_recorded_72 rfl (lv_at hl 2 rfl) ?_
      refine lv_iadd hx hb dX5_recorded_73 ?_
      refine lv_aload_n hx hb dX5_recorded_74 rfl (lv_at hl 0 rfl) ?_
      refine va_get (D := D) (ci := 5) (v := .ref a2) (C := RX5) (T := TX5) (N := 13) hx hb hts hi_X5 hown hK hP 0 rfl rfl 1 (by decide) hf_13 (fun _ h9 => h9) rfl dX5_recorded_75 ?_
      refine lv_iload_n hx hb dX5_recorded_78 rfl (lv_at hl 2 rfl) ?_
      obtain ⟨x8, ex8, hnx8, hsp⟩ := ldE hsp
      refine r_iald hx hb hK hP 1 0 rfl rfl ex8 hnx8 dX5_recorded_79 ?_
      obtain ⟨y9, ey9, hny9, hsp⟩ := stoE hsp
      refine r_iast (ws' := [(a0, .inr (5, [w0_0, .ref a2, .ref a3, w0_3, w0_4, w0_5, w0_6, w0_7, w0_8, w0_9, .int g0_10, w0_11, w0_12])), (a2, .inl (cI, 99, .inl f2)), (a3, .inl (cI, 594, .inl y9))]) hx hb hK hP hD hS 2 0 rfl rfl ey9 hny9 rfl dX5_recorded_80 (fun H locs hP hD hS => ?_)
      obtain ⟨x10, ex10, hsp⟩ := nmE hsp
      refine lv_iinc (k := 2) (v := x10) (lv' := [(2, .int x10), (0, .ref a0), (1, .int u1)]) hx hb dX5_recorded_81 hl rfl (by rw [ex10]; rfl) (by decide) rfl (fun ls hl => ?_)
      refine lv_goto (tgt := 55) hx hb dX5_recorded_84 (by decide) ?_
      exact ih1 (x10, y9) _ _ hsp hP hD hS _ (lv_sub hl [1, 2, 0] rfl)
  have hsp := itT hsp c2
  refine lv_iconst (v := 0) hx hb dX5_recorded_13 (by decide) ?_
  refine lv_istore_n (lv' := [(2, .int 0), (0, .ref a0), (1, .int u1)]) hx hb dX5_recorded_14 rfl hl (by decide) rfl (fun ls hl => ?_)
  refine ex_rule (D := D) (K := s_X5_recorded_X2 g0_10 f2 u1) (P := fun (t2 : (Nat → Int32)) => [(a0, .inr (5, [w0_0, .ref a2, .ref a3, w0_3, w0_4, w0_5, w0_6, w0_7, w0_8, w0_9, .int g0_10, w0_11, w0_12])), (a2, .inl (cI, 99, .inl f2)), (a3, .inl (cI, 594, .inl t2))]) (L := fun (t2 : (Nat → Int32)) => [(0, .ref a0), (1, .int u1)]) (nL := 3) (pcx := 43) (res := res) (A := A) (H0 := s.heap) ?_ (fun hx2 => ?_)
  · intro t2 H locs hsp hP hD hS ls hl
    obtain ⟨y13, rfl⟩ : ∃ z, z = t2 := ⟨_, rfl⟩
    unfold s_X5_recorded_X2 at hsp; try dsimp only at hsp
    have hP : va_P D vwCl [(a0, .inr (5, [w0_0, .ref a2, .ref a3, w0_3, w0_4, w0_5, w0_6, w0_7, w0_8, w0_9, .int g0_10, w0_11, w0_12])), (a2, .inl (cI, 99, .inl f2)), (a3, .inl (cI, 594, .inl y13))] H := hP
    have hD : va_D A [(a0, .inr (5, [w0_0, .ref a2, .ref a3, w0_3, w0_4, w0_5, w0_6, w0_7, w0_8, w0_9, .int g0_10, w0_11, w0_12])), (a2, .inl (cI, 99, .inl f2)), (a3, .inl (cI, 594, .inl y13))] := hD
    have hl : lv_has ls 3 [(0, .ref a0), (1, .int u1)] := hl
    refine lv_aload_n hx hb dX5_recorded_43 rfl (lv_at hl 0 rfl) ?_
    refine lv_dup hx hb dX5_recorded_44 rfl ?_
    refine va_get (D := D) (ci := 5) (v := .int g0_10) (C := RX5) (T := TX5) (N := 13) hx hb hts hi_X5 hown hK hP 0 rfl rfl 10 (by decide) hf_43 (fun _ h9 => h9) rfl dX5_recorded_45 ?_
    refine lv_iconst (v := 1) hx hb dX5_recorded_48 (by decide) ?_
    refine lv_isub hx hb dX5_recorded_49 ?_
    obtain ⟨x14, ex14, hsp⟩ := nmE hsp
    refine r_top ex14 ?_
    refine va_put (D := D) (ci := 5) (v := .int x14) (ty := .int) (C := RX5) (T := TX5) (N := 13) hx hb hts hi_X5 tyX5 tyX5_ok nmX5 hown hK hP hD hS 0 rfl rfl 10 (by decide) hf_43 (fun _ h9 => h9) rfl (by decide +kernel) rfl rfl (Nat.le_of_ble_eq_true rfl) dX5_recorded_50 (fun H locs hP hD hS => ?_)
    have hP : va_P D vwCl [(a0, .inr (5, [w0_0, .ref a2, .ref a3, w0_3, w0_4, w0_5, w0_6, w0_7, w0_8, w0_9, .int x14, w0_11, w0_12])), (a2, .inl (cI, 99, .inl f2)), (a3, .inl (cI, 594, .inl y13))] H := hP
    have hD : va_D A [(a0, .inr (5, [w0_0, .ref a2, .ref a3, w0_3, w0_4, w0_5, w0_6, w0_7, w0_8, w0_9, .int x14, w0_11, w0_12])), (a2, .inl (cI, 99, .inl f2)), (a3, .inl (cI, 594, .inl y13))] := hD
    refine lv_iconst (v := 0) hx hb dX5_recorded_53 (by decide) ?_
    refine lv_istore_n (lv' := [(2, .int 0), (0, .ref a0), (1, .int u1)]) hx hb dX5_recorded_54 rfl hl (by decide) rfl (fun ls hl => ?_)
    refine ex_rule (D := D) (K := s_X5_recorded_X3 x14 u1) (P := fun (t3 : (Nat → Int32)) => [(a0, .inr (5, [w0_0, .ref a2, .ref a3, w0_3, w0_4, w0_5, w0_6, w0_7, w0_8, w0_9, .int x14, w0_11, w0_12])), (a2, .inl (cI, 99, .inl f2)), (a3, .inl (cI, 594, .inl t3))]) (L := fun (t3 : (Nat → Int32)) => [(0, .ref a0), (1, .int u1)]) (nL := 3) (pcx := 87) (res := res) (A := A) (H0 := s.heap) ?_ (fun hx3 => ?_)
    · intro t3 H locs hsp hP hD hS ls hl
      obtain ⟨y17, rfl⟩ : ∃ z, z = t3 := ⟨_, rfl⟩
      unfold s_X5_recorded_X3 at hsp; try dsimp only at hsp
      have hP : va_P D vwCl [(a0, .inr (5, [w0_0, .ref a2, .ref a3, w0_3, w0_4, w0_5, w0_6, w0_7, w0_8, w0_9, .int x14, w0_11, w0_12])), (a2, .inl (cI, 99, .inl f2)), (a3, .inl (cI, 594, .inl y17))] H := hP
      have hD : va_D A [(a0, .inr (5, [w0_0, .ref a2, .ref a3, w0_3, w0_4, w0_5, w0_6, w0_7, w0_8, w0_9, .int x14, w0_11, w0_12])), (a2, .inl (cI, 99, .inl f2)), (a3, .inl (cI, 594, .inl y17))] := hD
      have hl : lv_has ls 3 [(0, .ref a0), (1, .int u1)] := hl
      refine lv_aload_n hx hb dX5_recorded_87 rfl (lv_at hl 0 rfl) ?_
      refine lv_dup hx hb dX5_recorded_88 rfl ?_
      refine va_get (D := D) (ci := 5) (v := .int x14) (C := RX5) (T := TX5) (N := 13) hx hb hts hi_X5 hown hK hP 0 rfl rfl 10 (by decide) hf_43 (fun _ h9 => h9) rfl dX5_recorded_89 ?_
      refine lv_iconst (v := 1) hx hb dX5_recorded_92 (by decide) ?_
      refine lv_iadd hx hb dX5_recorded_93 ?_
      obtain ⟨x18, ex18, hsp⟩ := nmE hsp
      refine r_top ex18 ?_
      refine va_put (D := D) (ci := 5) (v := .int x18) (ty := .int) (C := RX5) (T := TX5) (N := 13) hx hb hts hi_X5 tyX5 tyX5_ok nmX5 hown hK hP hD hS 0 rfl rfl 10 (by decide) hf_43 (fun _ h9 => h9) rfl (by decide +kernel) rfl rfl (Nat.le_of_ble_eq_true rfl) dX5_recorded_94 (fun H locs hP hD hS => ?_)
      have hP : va_P D vwCl [(a0, .inr (5, [w0_0, .ref a2, .ref a3, w0_3, w0_4, w0_5, w0_6, w0_7, w0_8, w0_9, .int x18, w0_11, w0_12])), (a2, .inl (cI, 99, .inl f2)), (a3, .inl (cI, 594, .inl y17))] H := hP
      have hD : va_D A [(a0, .inr (5, [w0_0, .ref a2, .ref a3, w0_3, w0_4, w0_5, w0_6, w0_7, w0_8, w0_9, .int x18, w0_11, w0_12])), (a2, .inl (cI, 99, .inl f2)), (a3, .inl (cI, 594, .inl y17))] := hD
      refine lv_iload_n hx hb dX5_recorded_97 rfl (lv_at hl 1 rfl) ?_
      have hres := Option.some.inj hsp
      subst hres
      exact W.iret (v := u1) hx hb hr (fun t ht hW => ⟨⟨u1, (), rfl, rfl, P_at ht hP⟩, hS.F ht⟩) hS.2.2 dX5_recorded_98
    have hl := lv_sub hl (l' := [(0, .ref a0), (1, .int u1), (2, .int 0)]) [1, 2, 0] rfl
    refine lp_rule (D := D) (F := s_X5_recorded_L3 f2 x14 (s_X5_recorded_X3 x14 u1)) (P := fun (tv : Int32 × (Nat → Int32)) => [(a0, .inr (5, [w0_0, .ref a2, .ref a3, w0_3, w0_4, w0_5, w0_6, w0_7, w0_8, w0_9, .int x14, w0_11, w0_12])), (a2, .inl (cI, 99, .inl f2)), (a3, .inl (cI, 594, .inl tv.2))]) (L := fun (tv : Int32 × (Nat → Int32)) => [(0, .ref a0), (1, .int u1), (2, .int tv.1)]) (nL := 3) (res := res) (A := A) (H0 := s.heap) (fun _ => rfl) ?_ 1000 (0, y13) _ _ hsp hP hD hS _ hl
    · intro n3 ih3 tv H locs hsp hP hD hS ls hl
      obtain ⟨x15, y16⟩ := tv
      have hsp : s_X5_recorded_B3  f2 x14 (s_X5_recorded_X3 x14 u1) (s_X5_recorded_L3 f2 x14 (s_X5_recorded_X3 x14 u1) n3) x15 y16 = some res := hsp
      unfold s_X5_recorded_B3 at hsp
      have hP : va_P D vwCl [(a0, .inr (5, [w0_0, .ref a2, .ref a3, w0_3, w0_4, w0_5, w0_6, w0_7, w0_8, w0_9, .int x14, w0_11, w0_12])), (a2, .inl (cI, 99, .inl f2)), (a3, .inl (cI, 594, .inl y16))] H := hP
      have hD : va_D A [(a0, .inr (5, [w0_0, .ref a2, .ref a3, w0_3, w0_4, w0_5, w0_6, w0_7, w0_8, w0_9, .int x14, w0_11, w0_12])), (a2, .inl (cI, 99, .inl f2)), (a3, .inl (cI, 594, .inl y16))] := hD
      have hl : lv_has ls 3 [(0, .ref a0), (1, .int u1), (2, .int x15)] := hl
      refine lv_iload_n hx hb dX5_recorded_55 rfl (lv_at hl 2 rfl) ?_
      refine lv_bipush (v := 99) hx hb dX5_recorded_56 (by decide) ?_
      refine lv_icmp_ge (tgt := 87) hx hb dX5_recorded_58 (by decide) (fun c19 => ?_) (fun c19 => ?_)
      · have hsp := itT hsp c19
        exact hx3 y16 _ _ hsp hP hD hS _ (lv_sub hl [0, 1] rfl)
      have hsp := itF hsp c19
      refine lv_aload_n hx hb dX5_recorded_61 rfl (lv_at hl 0 rfl) ?_
      refine va_get (D := D) (ci := 5) (v := .ref a3) (C := RX5) (T := TX5) (N := 13) hx hb hts hi_X5 hown hK hP 0 rfl rfl 2 (by decide) hf_16 (fun _ h9 => h9) rfl dX5_recorded_62 ?_
      refine lv_bipush (v := 99) hx hb dX5_recorded_65 (by decide) ?_
      refine lv_aload_n hx hb dX5_recorded_67 rfl (lv_at hl 0 rfl) ?_
      refine va_get (D := D) (ci := 5) (v := .int x14) (C := RX5) (T := TX5) (N := 13) hx hb hts hi_X5 hown hK hP 0 rfl rfl 10 (by decide) hf_43 (fun _ h9 => h9) rfl dX5_recorded_68 ?_
      refine lv_imul hx hb dX5_recorded_71 ?_
      refine lv_iload_n hx hb dX5_recorded_72 rfl (lv_at hl 2 rfl) ?_
      refine lv_iadd hx hb dX5_recorded_73 ?_
      refine lv_aload_n hx hb dX5_recorded_74 rfl (lv_at hl 0 rfl) ?_
      refine va_get (D := D) (ci := 5) (v := .ref a2) (C := RX5) (T := TX5) (N := 13) hx hb hts hi_X5 hown hK hP 0 rfl rfl 1 (by decide) hf_13 (fun _ h9 => h9) rfl dX5_recorded_75 ?_
      refine lv_iload_n hx hb dX5_recorded_78 rfl (lv_at hl 2 rfl) ?_
      obtain ⟨x20, ex20, hnx20, hsp⟩ := ldE hsp
      refine r_iald hx hb hK hP 1 0 rfl rfl ex20 hnx20 dX5_recorded_79 ?_
      obtain ⟨y21, ey21, hny21, hsp⟩ := stoE hsp
      refine r_iast (ws' := [(a0, .inr (5, [w0_0, .ref a2, .ref a3, w0_3, w0_4, w0_5, w0_6, w0_7, w0_8, w0_9, .int x14, w0_11, w0_12])), (a2, .inl (cI, 99, .inl f2)), (a3, .inl (cI, 594, .inl y21))]) hx hb hK hP hD hS 2 0 rfl rfl ey21 hny21 rfl dX5_recorded_80 (fun H locs hP hD hS => ?_)
      obtain ⟨x22, ex22, hsp⟩ := nmE hsp
      refine lv_iinc (k := 2) (v := x22) (lv' := [(2, .int x22), (0, .ref a0), (1, .int u1)]) hx hb dX5_recorded_81 hl rfl (by rw [ex22]; rfl) (by decide) rfl (fun ls hl => ?_)
      refine lv_goto (tgt := 55) hx hb dX5_recorded_84 (by decide) ?_
      exact ih3 (x22, y21) _ _ hsp hP hD hS _ (lv_sub hl [1, 2, 0] rfl)
  have hl := lv_sub hl (l' := [(0, .ref a0), (1, .int u1), (2, .int 0)]) [1, 2, 0] rfl
  refine lp_rule (D := D) (F := s_X5_recorded_L2 (s_X5_recorded_X2 g0_10 f2 u1)) (P := fun (tv : Int32 × (Nat → Int32)) => [(a0, .inr (5, [w0_0, .ref a2, .ref a3, w0_3, w0_4, w0_5, w0_6, w0_7, w0_8, w0_9, .int g0_10, w0_11, w0_12])), (a2, .inl (cI, 99, .inl f2)), (a3, .inl (cI, 594, .inl tv.2))]) (L := fun (tv : Int32 × (Nat → Int32)) => [(0, .ref a0), (1, .int u1), (2, .int tv.1)]) (nL := 3) (res := res) (A := A) (H0 := s.heap) (fun _ => rfl) ?_ 1000 (0, f3) _ _ hsp hP hD hS _ hl
  · intro n2 ih2 tv H locs hsp hP hD hS ls hl
    obtain ⟨x11, y12⟩ := tv
    have hsp : s_X5_recorded_B2   (s_X5_recorded_X2 g0_10 f2 u1) (s_X5_recorded_L2 (s_X5_recorded_X2 g0_10 f2 u1) n2) x11 y12 = some res := hsp
    unfold s_X5_recorded_B2 at hsp
    have hP : va_P D vwCl [(a0, .inr (5, [w0_0, .ref a2, .ref a3, w0_3, w0_4, w0_5, w0_6, w0_7, w0_8, w0_9, .int g0_10, w0_11, w0_12])), (a2, .inl (cI, 99, .inl f2)), (a3, .inl (cI, 594, .inl y12))] H := hP
    have hD : va_D A [(a0, .inr (5, [w0_0, .ref a2, .ref a3, w0_3, w0_4, w0_5, w0_6, w0_7, w0_8, w0_9, .int g0_10, w0_11, w0_12])), (a2, .inl (cI, 99, .inl f2)), (a3, .inl (cI, 594, .inl y12))] := hD
    have hl : lv_has ls 3 [(0, .ref a0), (1, .int u1), (2, .int x11)] := hl
    refine lv_iload_n hx hb dX5_recorded_15 rfl (lv_at hl 2 rfl) ?_
    refine lv_sipush (v := 495) hx hb dX5_recorded_16 (by decide) ?_
    refine lv_icmp_ge (tgt := 43) hx hb dX5_recorded_19 (by decide) (fun c23 => ?_) (fun c23 => ?_)
    · have hsp := itT hsp c23
      exact hx2 y12 _ _ hsp hP hD hS _ (lv_sub hl [0, 1] rfl)
    have hsp := itF hsp c23
    refine lv_aload_n hx hb dX5_recorded_22 rfl (lv_at hl 0 rfl) ?_
    refine va_get (D := D) (ci := 5) (v := .ref a3) (C := RX5) (T := TX5) (N := 13) hx hb hts hi_X5 hown hK hP 0 rfl rfl 2 (by decide) hf_16 (fun _ h9 => h9) rfl dX5_recorded_23 ?_
    refine lv_iload_n hx hb dX5_recorded_26 rfl (lv_at hl 2 rfl) ?_
    refine lv_aload_n hx hb dX5_recorded_27 rfl (lv_at hl 0 rfl) ?_
    refine va_get (D := D) (ci := 5) (v := .ref a3) (C := RX5) (T := TX5) (N := 13) hx hb hts hi_X5 hown hK hP 0 rfl rfl 2 (by decide) hf_16 (fun _ h9 => h9) rfl dX5_recorded_28 ?_
    refine lv_bipush (v := 99) hx hb dX5_recorded_31 (by decide) ?_
    refine lv_iload_n hx hb dX5_recorded_33 rfl (lv_at hl 2 rfl) ?_
    refine lv_iadd hx hb dX5_recorded_34 ?_
    obtain ⟨x24, ex24, hnx24, hsp⟩ := ldE hsp
    refine r_iald hx hb hK hP 2 0 rfl rfl ex24 hnx24 dX5_recorded_35 ?_
    obtain ⟨y25, ey25, hny25, hsp⟩ := stoE hsp
    refine r_iast (ws' := [(a0, .inr (5, [w0_0, .ref a2, .ref a3, w0_3, w0_4, w0_5, w0_6, w0_7, w0_8, w0_9, .int g0_10, w0_11, w0_12])), (a2, .inl (cI, 99, .inl f2)), (a3, .inl (cI, 594, .inl y25))]) hx hb hK hP hD hS 2 0 rfl rfl ey25 hny25 rfl dX5_recorded_36 (fun H locs hP hD hS => ?_)
    obtain ⟨x26, ex26, hsp⟩ := nmE hsp
    refine lv_iinc (k := 2) (v := x26) (lv' := [(2, .int x26), (0, .ref a0), (1, .int u1)]) hx hb dX5_recorded_37 hl rfl (by rw [ex26]; rfl) (by decide) rfl (fun ls hl => ?_)
    refine lv_goto (tgt := 15) hx hb dX5_recorded_40 (by decide) ?_
    exact ih2 (x26, y25) _ _ hsp hP hD hS _ (lv_sub hl [1, 2, 0] rfl)

theorem nd_X5_dip : yX5_dip.cls = RX5 ∧ yX5_dip.cls ≠ "java/lang/invoke/MethodHandle" ∧ yX5_dip.cls ≠ "java/lang/invoke/VarHandle" ∧ (parseMethodDescriptor yX5_dip.desc).map (fun d => d.parameters.length) = some 2 := by decide +kernel
set_option maxHeartbeats 8000000 in
set_option maxRecDepth 100000 in
theorem k_X5_dip (l : Launch) (D : va_G) (cI cZ cC cS : ClassId) (sz : Nat) (a0 a1 a2 a3 a6 : Nat) (w0_3 : Value) (w0_4 : Value) (w0_6 : Value) (w0_7 : Value) (w0_8 : Value) (w0_9 : Value) (g0_10 : Int32) (w0_11 : Value) (w0_12 : Value) (f1 : Nat → Int32) (f2 : Nat → Int32) (f3 : Nat → Int32) (f6 : Nat → Int32) (u1 : Int32) (u2 : Int32) (res : Int32 × Int32 × (Nat → Int32) × (Nat → Int32) × (Nat → Int32) × (Nat → Int32)) (hsp : s_X5_dip g0_10 f1 f2 f3 f6 u1 u2 = some res) : Met l yX5_dip wsX5_dip ({ frames := 4, cells := 0, slots := 0, locals := 98 }) (va_Pc [.ref a0, .int u1, .int u2] (PB D cI cZ cC cS [(a0, .inr (5, [.ref a1, .ref a2, .ref a3, w0_3, w0_4, .ref a6, w0_6, w0_7, w0_8, w0_9, .int g0_10, w0_11, w0_12])), (a1, .inl (cI, 99, .inl f1)), (a2, .inl (cI, 99, .inl f2)), (a3, .inl (cI, 594, .inl f3)), (a6, .inl (cI, 4, .inl f6))] sz)) (va_Qi (fun r (_ : Unit) => r = res.1) (fun _ t => va_P D vwCl [(a0, .inr (5, [.ref a1, .ref a2, .ref a3, w0_3, w0_4, .ref a6, w0_6, w0_7, w0_8, w0_9, .int res.2.1, w0_11, w0_12])), (a1, .inl (cI, 99, .inl res.2.2.1)), (a2, .inl (cI, 99, .inl res.2.2.2.1)), (a3, .inl (cI, 594, .inl res.2.2.2.2.1)), (a6, .inl (cI, 4, .inl res.2.2.2.2.2))] t.heap) (va_A [(a0, .inr (5, [.ref a1, .ref a2, .ref a3, w0_3, w0_4, .ref a6, w0_6, w0_7, w0_8, w0_9, .int g0_10, w0_11, w0_12])), (a1, .inl (cI, 99, .inl f1)), (a2, .inl (cI, 99, .inl f2)), (a3, .inl (cI, 594, .inl f3)), (a6, .inl (cI, 4, .inl f6))] sz)) 0 0 (va_A [(a0, .inr (5, [.ref a1, .ref a2, .ref a3, w0_3, w0_4, .ref a6, w0_6, w0_7, w0_8, w0_9, .int g0_10, w0_11, w0_12])), (a1, .inl (cI, 99, .inl f1)), (a2, .inl (cI, 99, .inl f2)), (a3, .inl (cI, 594, .inl f3)), (a6, .inl (cI, 4, .inl f6))] sz) := by
  refine Met.ofW (cc := cX5_dip) (maxL := 3) (ret := (some .int)) (by decide) rfl ?_
  intro p e s m args below meth c s₁ B hml hv
  obtain ⟨rfl, hsz, hP, hD0, hKU⟩ := hv
  have hx := B.exec
  have hb := B.bytes
  have hr := B.returns
  have hts := atoms_spec (ws := wsX5_dip) B.pre
  have hown : s.vm.findClass RX5 = some m.cls := findClass_of_methodNamed B.named
  have hlocks := B.notSynchronized
  have hK := hKU.1
  subst hsz
  have hD := hD0.self (sz := s.heap.size)
  generalize hAe : va_A [(a0, .inr (5, [.ref a1, .ref a2, .ref a3, w0_3, w0_4, .ref a6, w0_6, w0_7, w0_8, w0_9, .int g0_10, w0_11, w0_12])), (a1, .inl (cI, 99, .inl f1)), (a2, .inl (cI, 99, .inl f2)), (a3, .inl (cI, 594, .inl f3)), (a6, .inl (cI, 4, .inl f6))] s.heap.size = A at hD ⊢
  have hA : ∀ q : Nat, s.heap.size ≤ q → A q := fun q h => by rw [← hAe]; exact Or.inr h
  have hP : va_P D vwCl [(a0, .inr (5, [.ref a1, .ref a2, .ref a3, w0_3, w0_4, .ref a6, w0_6, w0_7, w0_8, w0_9, .int g0_10, w0_11, w0_12])), (a1, .inl (cI, 99, .inl f1)), (a2, .inl (cI, 99, .inl f2)), (a3, .inl (cI, 594, .inl f3)), (a6, .inl (cI, 4, .inl f6))] s.heap := hP
  generalize hHe : s.heap = H at hP ⊢
  have hS : va_S A s.heap H [] := by rw [hHe]; exact va_S.rf
  have hl := lv_entry ([.ref a0, .int u1, .int u2]) (n := 3) (Nat.le_of_ble_eq_true rfl)
  rw [lg_entry_eq]
  generalize (lg_sl ([.ref a0, .int u1, .int u2]) ++ List.replicate (3 - (lg_sl ([.ref a0, .int u1, .int u2])).length) Slot.unset).toArray = ls at hl ⊢
  have hl : lv_has ls 3 [(0, .ref a0), (1, .int u1), (2, .int u2)] := hl
  unfold s_X5_dip at hsp
  refine lv_aload_n hx hb dX5_dip_0 rfl (lv_at hl 0 rfl) ?_
  obtain ⟨r1, hcr1, hsp⟩ := clE hsp
  refine call_v (w1 := [(a0, .inr (5, [.ref a1, .ref a2, .ref a3, w0_3, w0_4, .ref a6, w0_6, w0_7, w0_8, w0_9, .int g0_10, w0_11, w0_12])), (a1, .inl (cI, 99, .inl f1)), (a2, .inl (cI, 99, .inl r1))]) (ws' := [(a0, .inr (5, [.ref a1, .ref a2, .ref a3, w0_3, w0_4, .ref a6, w0_6, w0_7, w0_8, w0_9, .int g0_10, w0_11, w0_12])), (a1, .inl (cI, 99, .inl f1)), (a2, .inl (cI, 99, .inl r1)), (a3, .inl (cI, 594, .inl f3)), (a6, .inl (cI, 4, .inl f6))]) (va_runV (As := []) (rest := []) ⟨hx, hb, hml, hown, hts⟩ (k_X5_hold l D cI cZ cC cS H.size a0 a1 a2 (.ref a3) (w0_3) (w0_4) (.ref a6) (w0_6) (w0_7) (w0_8) (w0_9) (.int g0_10) (w0_11) (w0_12) f1 f2 r1 hcr1) (cwV 0 hts gX5_dip_X5_hold rfl rfl rfl nd_X5_hold ⟨Nat.le_of_ble_eq_true rfl, Nat.le_of_ble_eq_true rfl⟩) (PB.preV (ci := 5) (q0 := 0) hKU hP hD [0, 1, 2] rfl rfl rfl rfl) rfl rfl hl.1 rfl (lv_room (Nat.le_of_ble_eq_true rfl)) dX5_dip_1 ⟨Nat.zero_le _, Nat.zero_le _⟩) hS hP hD hA [0, 1, 2] rfl rfl (by first | (simp only [wset, List.set_cons_zero, List.set_cons_succ]; done) | rfl) rfl (fun H locs hP hD hS => ?_)
  refine lv_aload_n hx hb dX5_dip_4 rfl (lv_at hl 0 rfl) ?_
  refine lv_aload_n hx hb dX5_dip_5 rfl (lv_at hl 0 rfl) ?_
  refine lv_iload_n hx hb dX5_dip_6 rfl (lv_at hl 1 rfl) ?_
  refine lv_iload_n hx hb dX5_dip_7 rfl (lv_at hl 2 rfl) ?_
  obtain ⟨r2, hcr2, hsp⟩ := clE hsp
  refine call_i (w1 := [(a0, .inr (5, [.ref a1, .ref a2, .ref a3, w0_3, w0_4, .ref a6, w0_6, w0_7, w0_8, w0_9, .int g0_10, w0_11, w0_12])), (a1, .inl (cI, 99, .inl r2.2.1)), (a6, .inl (cI, 4, .inl r2.2.2))]) (ws' := [(a0, .inr (5, [.ref a1, .ref a2, .ref a3, w0_3, w0_4, .ref a6, w0_6, w0_7, w0_8, w0_9, .int g0_10, w0_11, w0_12])), (a1, .inl (cI, 99, .inl r2.2.1)), (a2, .inl (cI, 99, .inl r1)), (a3, .inl (cI, 594, .inl f3)), (a6, .inl (cI, 4, .inl r2.2.2))]) (va_runV (As := [.int u1, .int u2]) (rest := [.ref a0]) ⟨hx, hb, hml, hown, hts⟩ (k_X5_dips l D cI cZ cC cS H.size a0 a1 a6 (.ref a2) (.ref a3) (w0_3) (w0_4) (w0_6) (w0_7) (w0_8) (w0_9) (.int g0_10) (w0_11) (w0_12) f1 f6 u1 u2 r2 hcr2) (cwV 2 hts gX5_dip_X5_dips rfl rfl rfl nd_X5_dips ⟨Nat.le_of_ble_eq_true rfl, Nat.le_of_ble_eq_true rfl⟩) (PB.preV (ci := 5) (q0 := 0) hKU hP hD [0, 1, 4] rfl rfl rfl rfl) rfl rfl hl.1 rfl (lv_room (Nat.le_of_ble_eq_true rfl)) dX5_dip_8 ⟨Nat.zero_le _, Nat.zero_le _⟩) hS hP hD hA [0, 1, 4] rfl rfl (by first | (simp only [wset, List.set_cons_zero, List.set_cons_succ]; done) | rfl) rfl (fun H locs hP hD hS => ?_)
  obtain ⟨r3, hcr3, hsp⟩ := clE hsp
  refine call_i (w1 := [(a0, .inr (5, [.ref a1, .ref a2, .ref a3, w0_3, w0_4, .ref a6, w0_6, w0_7, w0_8, w0_9, .int r3.2.1, w0_11, w0_12])), (a2, .inl (cI, 99, .inl r1)), (a3, .inl (cI, 594, .inl r3.2.2))]) (ws' := [(a0, .inr (5, [.ref a1, .ref a2, .ref a3, w0_3, w0_4, .ref a6, w0_6, w0_7, w0_8, w0_9, .int r3.2.1, w0_11, w0_12])), (a1, .inl (cI, 99, .inl r2.2.1)), (a2, .inl (cI, 99, .inl r1)), (a3, .inl (cI, 594, .inl r3.2.2)), (a6, .inl (cI, 4, .inl r2.2.2))]) (va_runV (As := [.int r2.1]) (rest := []) ⟨hx, hb, hml, hown, hts⟩ (k_X5_recorded l D cI cZ cC cS H.size a0 a2 a3 (.ref a1) (w0_3) (w0_4) (.ref a6) (w0_6) (w0_7) (w0_8) (w0_9) g0_10 (w0_11) (w0_12) r1 f3 r2.1 r3 hcr3) (cwV 1 hts gX5_dip_X5_recorded rfl rfl rfl nd_X5_recorded ⟨Nat.le_of_ble_eq_true rfl, Nat.le_of_ble_eq_true rfl⟩) (PB.preV (ci := 5) (q0 := 0) hKU hP hD [0, 2, 3] rfl rfl rfl rfl) rfl rfl hl.1 rfl (lv_room (Nat.le_of_ble_eq_true rfl)) dX5_dip_11 ⟨Nat.zero_le _, Nat.zero_le _⟩) hS hP hD hA [0, 2, 3] rfl rfl (by first | (simp only [wset, List.set_cons_zero, List.set_cons_succ]; done) | rfl) rfl (fun H locs hP hD hS => ?_)
  have hres := Option.some.inj hsp
  subst hres
  exact W.iret (v := r3.1) hx hb hr (fun t ht hW => ⟨⟨r3.1, (), rfl, rfl, P_at ht hP⟩, hS.F ht⟩) hS.2.2 dX5_dip_14

theorem nd_X5_fills : yX5_fills.cls = RX5 ∧ yX5_fills.cls ≠ "java/lang/invoke/MethodHandle" ∧ yX5_fills.cls ≠ "java/lang/invoke/VarHandle" ∧ (parseMethodDescriptor yX5_fills.desc).map (fun d => d.parameters.length) = some 3 := by decide +kernel
set_option maxHeartbeats 8000000 in
set_option maxRecDepth 100000 in
theorem k_X5_fills (l : Launch) (D : va_G) (cI cZ cC cS : ClassId) (sz : Nat) (a0 a1 : Nat) (w0_1 : Value) (w0_2 : Value) (w0_3 : Value) (w0_4 : Value) (w0_5 : Value) (w0_6 : Value) (w0_7 : Value) (w0_8 : Value) (w0_9 : Value) (w0_10 : Value) (w0_11 : Value) (w0_12 : Value) (f1 : Nat → Int32) (u1 : Int32) (u2 : Int32) (u3 : Int32) (res : Int32 × (Nat → Int32)) (hsp : s_X5_fills f1 u1 u2 u3 = some res) : Met l yX5_fills wsX5_fills ({ frames := 2, cells := 0, slots := 0, locals := 42 }) (va_Pc [.ref a0, .int u1, .int u2, .int u3] (PB D cI cZ cC cS [(a0, .inr (5, [.ref a1, w0_1, w0_2, w0_3, w0_4, w0_5, w0_6, w0_7, w0_8, w0_9, w0_10, w0_11, w0_12])), (a1, .inl (cI, 99, .inl f1))] sz)) (va_Qi (fun r (_ : Unit) => r = res.1) (fun _ t => va_P D vwCl [(a0, .inr (5, [.ref a1, w0_1, w0_2, w0_3, w0_4, w0_5, w0_6, w0_7, w0_8, w0_9, w0_10, w0_11, w0_12])), (a1, .inl (cI, 99, .inl res.2))] t.heap) (va_A [(a0, .inr (5, [.ref a1, w0_1, w0_2, w0_3, w0_4, w0_5, w0_6, w0_7, w0_8, w0_9, w0_10, w0_11, w0_12])), (a1, .inl (cI, 99, .inl f1))] sz)) 0 0 (va_A [(a0, .inr (5, [.ref a1, w0_1, w0_2, w0_3, w0_4, w0_5, w0_6, w0_7, w0_8, w0_9, w0_10, w0_11, w0_12])), (a1, .inl (cI, 99, .inl f1))] sz) := by
  refine Met.ofW (cc := cX5_fills) (maxL := 4) (ret := (some .int)) (by decide) rfl ?_
  intro p e s m args below meth c s₁ B hml hv
  obtain ⟨rfl, hsz, hP, hD0, hKU⟩ := hv
  have hx := B.exec
  have hb := B.bytes
  have hr := B.returns
  have hts := atoms_spec (ws := wsX5_fills) B.pre
  have hown : s.vm.findClass RX5 = some m.cls := findClass_of_methodNamed B.named
  have hlocks := B.notSynchronized
  have hK := hKU.1
  have hf_7 := hts (.fieldLink RX5 7 "ThinnedPotsModel" "s" "[I") (by decide +kernel)
  have hi_X5 : ∀ w ∈ u_ws RX5 TX5 13, w ∈ wsX5_fills := by decide +kernel
  subst hsz
  have hD := hD0.self (sz := s.heap.size)
  generalize hAe : va_A [(a0, .inr (5, [.ref a1, w0_1, w0_2, w0_3, w0_4, w0_5, w0_6, w0_7, w0_8, w0_9, w0_10, w0_11, w0_12])), (a1, .inl (cI, 99, .inl f1))] s.heap.size = A at hD ⊢
  have hA : ∀ q : Nat, s.heap.size ≤ q → A q := fun q h => by rw [← hAe]; exact Or.inr h
  have hP : va_P D vwCl [(a0, .inr (5, [.ref a1, w0_1, w0_2, w0_3, w0_4, w0_5, w0_6, w0_7, w0_8, w0_9, w0_10, w0_11, w0_12])), (a1, .inl (cI, 99, .inl f1))] s.heap := hP
  generalize hHe : s.heap = H at hP ⊢
  have hS : va_S A s.heap H [] := by rw [hHe]; exact va_S.rf
  have hl := lv_entry ([.ref a0, .int u1, .int u2, .int u3]) (n := 4) (Nat.le_of_ble_eq_true rfl)
  rw [lg_entry_eq]
  generalize (lg_sl ([.ref a0, .int u1, .int u2, .int u3]) ++ List.replicate (4 - (lg_sl ([.ref a0, .int u1, .int u2, .int u3])).length) Slot.unset).toArray = ls at hl ⊢
  have hl : lv_has ls 4 [(0, .ref a0), (1, .int u1), (2, .int u2), (3, .int u3)] := hl
  unfold s_X5_fills at hsp
  refine lv_iload_n hx hb dX5_fills_0 rfl (lv_at hl 1 rfl) ?_
  obtain ⟨r1, hcr1, hsp⟩ := clE hsp
  refine call_z (w1 := []) (ws' := [(a0, .inr (5, [.ref a1, w0_1, w0_2, w0_3, w0_4, w0_5, w0_6, w0_7, w0_8, w0_9, w0_10, w0_11, w0_12])), (a1, .inl (cI, 99, .inl f1))]) (va_runS (As := [.int u1]) (rest := []) ⟨hx, hb, hml, hown, hts⟩ (k_X5_isPot l D cI cZ cC cS H.size u1 r1 hcr1) (va_cwS 1 hts gX5_fills_X5_isPot rfl rfl rfl nd_X5_isPot.2 ⟨Nat.le_of_ble_eq_true rfl, Nat.le_of_ble_eq_true rfl⟩) (PB.preS hKU hP hD [] rfl rfl) rfl rfl hl.1 rfl (lv_room (Nat.le_of_ble_eq_true rfl)) dX5_fills_1 ⟨Nat.zero_le _, Nat.zero_le _⟩) hS hP hD hA [] rfl rfl (by first | (simp only [wset, List.set_cons_zero, List.set_cons_succ]; done) | rfl) rfl (fun H locs hP hD hS hzr1 => ?_)
  refine lv_if_eq (tgt := 16) hx hb dX5_fills_4 (by decide) (fun c2 => ?_) (fun c2 => ?_)
  · have hsp := itT hsp c2
    refine lv_iconst (v := (-1)) hx hb dX5_fills_16 (by decide) ?_
    have hres := Option.some.inj hsp
    subst hres
    exact W.iret (v := (-1)) hx hb hr (fun t ht hW => ⟨⟨(-1), (), rfl, rfl, P_at ht hP⟩, hS.F ht⟩) hS.2.2 dX5_fills_17
  have hsp := itF hsp c2
  refine lv_iload_n hx hb dX5_fills_7 rfl (lv_at hl 2 rfl) ?_
  refine lv_iconst (v := 0) hx hb dX5_fills_8 (by decide) ?_
  refine lv_iconst (v := 3) hx hb dX5_fills_9 (by decide) ?_
  obtain ⟨r3, hcr3, hsp⟩ := clE hsp
  refine call_z (w1 := []) (ws' := [(a0, .inr (5, [.ref a1, w0_1, w0_2, w0_3, w0_4, w0_5, w0_6, w0_7, w0_8, w0_9, w0_10, w0_11, w0_12])), (a1, .inl (cI, 99, .inl f1))]) (va_runS (As := [.int u2, .int 0, .int 3]) (rest := []) ⟨hx, hb, hml, hown, hts⟩ (k_X5_in l D cI cZ cC cS H.size u2 0 3 r3 hcr3) (va_cwS 3 hts gX5_fills_X5_in rfl rfl rfl nd_X5_in.2 ⟨Nat.le_of_ble_eq_true rfl, Nat.le_of_ble_eq_true rfl⟩) (PB.preS hKU hP hD [] rfl rfl) rfl rfl hl.1 rfl (lv_room (Nat.le_of_ble_eq_true rfl)) dX5_fills_10 ⟨Nat.zero_le _, Nat.zero_le _⟩) hS hP hD hA [] rfl rfl (by first | (simp only [wset, List.set_cons_zero, List.set_cons_succ]; done) | rfl) rfl (fun H locs hP hD hS hzr3 => ?_)
  refine lv_if_ne (tgt := 18) hx hb dX5_fills_13 (by decide) (fun c4 => ?_) (fun c4 => ?_)
  · have hsp := itF hsp c4
    refine lv_iload_n hx hb dX5_fills_18 rfl (lv_at hl 3 rfl) ?_
    refine lv_iconst (v := 1) hx hb dX5_fills_19 (by decide) ?_
    refine lv_bipush (v := 81) hx hb dX5_fills_20 (by decide) ?_
    obtain ⟨r5, hcr5, hsp⟩ := clE hsp
    refine call_z (w1 := []) (ws' := [(a0, .inr (5, [.ref a1, w0_1, w0_2, w0_3, w0_4, w0_5, w0_6, w0_7, w0_8, w0_9, w0_10, w0_11, w0_12])), (a1, .inl (cI, 99, .inl f1))]) (va_runS (As := [.int u3, .int 1, .int 81]) (rest := []) ⟨hx, hb, hml, hown, hts⟩ (k_X5_in l D cI cZ cC cS H.size u3 1 81 r5 hcr5) (va_cwS 3 hts gX5_fills_X5_in rfl rfl rfl nd_X5_in.2 ⟨Nat.le_of_ble_eq_true rfl, Nat.le_of_ble_eq_true rfl⟩) (PB.preS hKU hP hD [] rfl rfl) rfl rfl hl.1 rfl (lv_room (Nat.le_of_ble_eq_true rfl)) dX5_fills_22 ⟨Nat.zero_le _, Nat.zero_le _⟩) hS hP hD hA [] rfl rfl (by first | (simp only [wset, List.set_cons_zero, List.set_cons_succ]; done) | rfl) rfl (fun H locs hP hD hS hzr5 => ?_)
    refine lv_if_ne (tgt := 31) hx hb dX5_fills_25 (by decide) (fun c6 => ?_) (fun c6 => ?_)
    · have hsp := itF hsp c6
      refine lv_aload_n hx hb dX5_fills_31 rfl (lv_at hl 0 rfl) ?_
      refine lv_iload_n hx hb dX5_fills_32 rfl (lv_at hl 1 rfl) ?_
      obtain ⟨r7, hcr7, hsp⟩ := clE hsp
      refine call_i (w1 := []) (ws' := [(a0, .inr (5, [.ref a1, w0_1, w0_2, w0_3, w0_4, w0_5, w0_6, w0_7, w0_8, w0_9, w0_10, w0_11, w0_12])), (a1, .inl (cI, 99, .inl f1))]) (va_runS (As := [.int u1]) (rest := [.ref a0]) ⟨hx, hb, hml, hown, hts⟩ (k_X5_p l D cI cZ cC cS H.size u1 r7 hcr7) (va_cwS 1 hts gX5_fills_X5_p rfl rfl rfl nd_X5_p.2 ⟨Nat.le_of_ble_eq_true rfl, Nat.le_of_ble_eq_true rfl⟩) (PB.preS hKU hP hD [] rfl rfl) rfl rfl hl.1 rfl (lv_room (Nat.le_of_ble_eq_true rfl)) dX5_fills_33 ⟨Nat.zero_le _, Nat.zero_le _⟩) hS hP hD hA [] rfl rfl (by first | (simp only [wset, List.set_cons_zero, List.set_cons_succ]; done) | rfl) rfl (fun H locs hP hD hS => ?_)
      obtain ⟨r8, hcr8, hsp⟩ := clE hsp
      refine call_i (w1 := [(a0, .inr (5, [.ref a1, w0_1, w0_2, w0_3, w0_4, w0_5, w0_6, w0_7, w0_8, w0_9, w0_10, w0_11, w0_12])), (a1, .inl (cI, 99, .inl f1))]) (ws' := [(a0, .inr (5, [.ref a1, w0_1, w0_2, w0_3, w0_4, w0_5, w0_6, w0_7, w0_8, w0_9, w0_10, w0_11, w0_12])), (a1, .inl (cI, 99, .inl f1))]) (va_runV (As := [.int r7]) (rest := []) ⟨hx, hb, hml, hown, hts⟩ (k_X5_drops l D cI cZ cC cS H.size a0 a1 (w0_1) (w0_2) (w0_3) (w0_4) (w0_5) (w0_6) (w0_7) (w0_8) (w0_9) (w0_10) (w0_11) (w0_12) f1 r7 r8 hcr8) (cwV 1 hts gX5_fills_X5_drops rfl rfl rfl nd_X5_drops ⟨Nat.le_of_ble_eq_true rfl, Nat.le_of_ble_eq_true rfl⟩) (PB.preV (ci := 5) (q0 := 0) hKU hP hD [0, 1] rfl rfl rfl rfl) rfl rfl hl.1 rfl (lv_room (Nat.le_of_ble_eq_true rfl)) dX5_fills_36 ⟨Nat.zero_le _, Nat.zero_le _⟩) hS hP hD hA [0, 1] rfl rfl (by first | (simp only [wset, List.set_cons_zero, List.set_cons_succ]; done) | rfl) rfl (fun H locs hP hD hS => ?_)
      refine lv_iload_n hx hb dX5_fills_39 rfl (lv_at hl 3 rfl) ?_
      refine lv_iadd hx hb dX5_fills_40 ?_
      refine lv_bipush (v := 81) hx hb dX5_fills_41 (by decide) ?_
      refine lv_icmp_le (tgt := 49) hx hb dX5_fills_43 (by decide) (fun c9 => ?_) (fun c9 => ?_)
      · have hsp := itT hsp c9
        refine lv_aload_n hx hb dX5_fills_49 rfl (lv_at hl 0 rfl) ?_
        refine va_get (D := D) (ci := 5) (v := .ref a1) (C := RX5) (T := TX5) (N := 13) hx hb hts hi_X5 hown hK hP 0 rfl rfl 0 (by decide) hf_7 (fun _ h9 => h9) rfl dX5_fills_50 ?_
        refine lv_iload_n hx hb dX5_fills_53 rfl (lv_at hl 1 rfl) ?_
        obtain ⟨r10, hcr10, hsp⟩ := clE hsp
        refine call_i (w1 := []) (ws' := [(a0, .inr (5, [.ref a1, w0_1, w0_2, w0_3, w0_4, w0_5, w0_6, w0_7, w0_8, w0_9, w0_10, w0_11, w0_12])), (a1, .inl (cI, 99, .inl f1))]) (va_runS (As := [.int u1]) (rest := [.ref a1]) ⟨hx, hb, hml, hown, hts⟩ (k_X5_p l D cI cZ cC cS H.size u1 r10 hcr10) (va_cwS 1 hts gX5_fills_X5_p rfl rfl rfl nd_X5_p.2 ⟨Nat.le_of_ble_eq_true rfl, Nat.le_of_ble_eq_true rfl⟩) (PB.preS hKU hP hD [] rfl rfl) rfl rfl hl.1 rfl (lv_room (Nat.le_of_ble_eq_true rfl)) dX5_fills_54 ⟨Nat.zero_le _, Nat.zero_le _⟩) hS hP hD hA [] rfl rfl (by first | (simp only [wset, List.set_cons_zero, List.set_cons_succ]; done) | rfl) rfl (fun H locs hP hD hS => ?_)
        refine lv_iload_n hx hb dX5_fills_57 rfl (lv_at hl 2 rfl) ?_
        refine lv_iadd hx hb dX5_fills_58 ?_
        refine lv_dup2_11 hx hb dX5_fills_59 rfl rfl ?_
        obtain ⟨x11, ex11, hnx11, hsp⟩ := ldE hsp
        refine r_iald hx hb hK hP 1 0 rfl rfl ex11 hnx11 dX5_fills_60 ?_
        refine lv_iload_n hx hb dX5_fills_61 rfl (lv_at hl 3 rfl) ?_
        refine lv_iadd hx hb dX5_fills_62 ?_
        obtain ⟨x12, ex12, hsp⟩ := nmE hsp
        refine r_top ex12 ?_
        obtain ⟨y13, ey13, hny13, hsp⟩ := stoE hsp
        refine r_iast (ws' := [(a0, .inr (5, [.ref a1, w0_1, w0_2, w0_3, w0_4, w0_5, w0_6, w0_7, w0_8, w0_9, w0_10, w0_11, w0_12])), (a1, .inl (cI, 99, .inl y13))]) hx hb hK hP hD hS 1 0 rfl rfl ey13 hny13 rfl dX5_fills_63 (fun H locs hP hD hS => ?_)
        refine lv_aload_n hx hb dX5_fills_64 rfl (lv_at hl 0 rfl) ?_
        refine va_get (D := D) (ci := 5) (v := .ref a1) (C := RX5) (T := TX5) (N := 13) hx hb hts hi_X5 hown hK hP 0 rfl rfl 0 (by decide) hf_7 (fun _ h9 => h9) rfl dX5_fills_65 ?_
        refine lv_iconst (v := 2) hx hb dX5_fills_68 (by decide) ?_
        refine lv_dup2_11 hx hb dX5_fills_69 rfl rfl ?_
        obtain ⟨x14, ex14, hnx14, hsp⟩ := ldE hsp
        refine r_iald hx hb hK hP 1 0 rfl rfl ex14 hnx14 dX5_fills_70 ?_
        refine lv_iload_n hx hb dX5_fills_71 rfl (lv_at hl 3 rfl) ?_
        refine lv_iadd hx hb dX5_fills_72 ?_
        obtain ⟨x15, ex15, hsp⟩ := nmE hsp
        refine r_top ex15 ?_
        obtain ⟨y16, ey16, hny16, hsp⟩ := stoE hsp
        refine r_iast (ws' := [(a0, .inr (5, [.ref a1, w0_1, w0_2, w0_3, w0_4, w0_5, w0_6, w0_7, w0_8, w0_9, w0_10, w0_11, w0_12])), (a1, .inl (cI, 99, .inl y16))]) hx hb hK hP hD hS 1 0 rfl rfl ey16 hny16 rfl dX5_fills_73 (fun H locs hP hD hS => ?_)
        refine lv_aload_n hx hb dX5_fills_74 rfl (lv_at hl 0 rfl) ?_
        refine lv_iload_n hx hb dX5_fills_75 rfl (lv_at hl 1 rfl) ?_
        obtain ⟨r17, hcr17, hsp⟩ := clE hsp
        refine call_i (w1 := []) (ws' := [(a0, .inr (5, [.ref a1, w0_1, w0_2, w0_3, w0_4, w0_5, w0_6, w0_7, w0_8, w0_9, w0_10, w0_11, w0_12])), (a1, .inl (cI, 99, .inl y16))]) (va_runS (As := [.int u1]) (rest := [.ref a0]) ⟨hx, hb, hml, hown, hts⟩ (k_X5_p l D cI cZ cC cS H.size u1 r17 hcr17) (va_cwS 1 hts gX5_fills_X5_p rfl rfl rfl nd_X5_p.2 ⟨Nat.le_of_ble_eq_true rfl, Nat.le_of_ble_eq_true rfl⟩) (PB.preS hKU hP hD [] rfl rfl) rfl rfl hl.1 rfl (lv_room (Nat.le_of_ble_eq_true rfl)) dX5_fills_76 ⟨Nat.zero_le _, Nat.zero_le _⟩) hS hP hD hA [] rfl rfl (by first | (simp only [wset, List.set_cons_zero, List.set_cons_succ]; done) | rfl) rfl (fun H locs hP hD hS => ?_)
        obtain ⟨r18, hcr18, hsp⟩ := clE hsp
        refine call_i (w1 := [(a0, .inr (5, [.ref a1, w0_1, w0_2, w0_3, w0_4, w0_5, w0_6, w0_7, w0_8, w0_9, w0_10, w0_11, w0_12])), (a1, .inl (cI, 99, .inl y16))]) (ws' := [(a0, .inr (5, [.ref a1, w0_1, w0_2, w0_3, w0_4, w0_5, w0_6, w0_7, w0_8, w0_9, w0_10, w0_11, w0_12])), (a1, .inl (cI, 99, .inl y16))]) (va_runV (As := [.int r17]) (rest := []) ⟨hx, hb, hml, hown, hts⟩ (k_X5_drops l D cI cZ cC cS H.size a0 a1 (w0_1) (w0_2) (w0_3) (w0_4) (w0_5) (w0_6) (w0_7) (w0_8) (w0_9) (w0_10) (w0_11) (w0_12) y16 r17 r18 hcr18) (cwV 1 hts gX5_fills_X5_drops rfl rfl rfl nd_X5_drops ⟨Nat.le_of_ble_eq_true rfl, Nat.le_of_ble_eq_true rfl⟩) (PB.preV (ci := 5) (q0 := 0) hKU hP hD [0, 1] rfl rfl rfl rfl) rfl rfl hl.1 rfl (lv_room (Nat.le_of_ble_eq_true rfl)) dX5_fills_79 ⟨Nat.zero_le _, Nat.zero_le _⟩) hS hP hD hA [0, 1] rfl rfl (by first | (simp only [wset, List.set_cons_zero, List.set_cons_succ]; done) | rfl) rfl (fun H locs hP hD hS => ?_)
        have hres := Option.some.inj hsp
        subst hres
        exact W.iret (v := r18) hx hb hr (fun t ht hW => ⟨⟨r18, (), rfl, rfl, P_at ht hP⟩, hS.F ht⟩) hS.2.2 dX5_fills_82
      have hsp := itF hsp c9
      refine lv_bipush (v := (-4)) hx hb dX5_fills_46 (by decide) ?_
      have hres := Option.some.inj hsp
      subst hres
      exact W.iret (v := (-4)) hx hb hr (fun t ht hW => ⟨⟨(-4), (), rfl, rfl, P_at ht hP⟩, hS.F ht⟩) hS.2.2 dX5_fills_48
    have hsp := itT hsp c6
    refine lv_bipush (v := (-2)) hx hb dX5_fills_28 (by decide) ?_
    have hres := Option.some.inj hsp
    subst hres
    exact W.iret (v := (-2)) hx hb hr (fun t ht hW => ⟨⟨(-2), (), rfl, rfl, P_at ht hP⟩, hS.F ht⟩) hS.2.2 dX5_fills_30
  have hsp := itT hsp c4
  refine lv_iconst (v := (-1)) hx hb dX5_fills_16 (by decide) ?_
  have hres := Option.some.inj hsp
  subst hres
  exact W.iret (v := (-1)) hx hb hr (fun t ht hW => ⟨⟨(-1), (), rfl, rfl, P_at ht hP⟩, hS.F ht⟩) hS.2.2 dX5_fills_17

theorem nd_X5_thins : yX5_thins.cls = RX5 ∧ yX5_thins.cls ≠ "java/lang/invoke/MethodHandle" ∧ yX5_thins.cls ≠ "java/lang/invoke/VarHandle" ∧ (parseMethodDescriptor yX5_thins.desc).map (fun d => d.parameters.length) = some 1 := by decide +kernel
set_option maxHeartbeats 8000000 in
set_option maxRecDepth 100000 in
theorem k_X5_thins (l : Launch) (D : va_G) (cI cZ cC cS : ClassId) (sz : Nat) (a0 a1 : Nat) (w0_1 : Value) (w0_2 : Value) (w0_3 : Value) (w0_4 : Value) (w0_5 : Value) (w0_6 : Value) (w0_7 : Value) (w0_8 : Value) (w0_9 : Value) (w0_10 : Value) (w0_11 : Value) (w0_12 : Value) (f1 : Nat → Int32) (u1 : Int32) (res : Int32 × (Nat → Int32)) (hsp : s_X5_thins f1 u1 = some res) : Met l yX5_thins wsX5_thins ({ frames := 2, cells := 0, slots := 0, locals := 42 }) (va_Pc [.ref a0, .int u1] (PB D cI cZ cC cS [(a0, .inr (5, [.ref a1, w0_1, w0_2, w0_3, w0_4, w0_5, w0_6, w0_7, w0_8, w0_9, w0_10, w0_11, w0_12])), (a1, .inl (cI, 99, .inl f1))] sz)) (va_Qi (fun r (_ : Unit) => r = res.1) (fun _ t => va_P D vwCl [(a0, .inr (5, [.ref a1, w0_1, w0_2, w0_3, w0_4, w0_5, w0_6, w0_7, w0_8, w0_9, w0_10, w0_11, w0_12])), (a1, .inl (cI, 99, .inl res.2))] t.heap) (va_A [(a0, .inr (5, [.ref a1, w0_1, w0_2, w0_3, w0_4, w0_5, w0_6, w0_7, w0_8, w0_9, w0_10, w0_11, w0_12])), (a1, .inl (cI, 99, .inl f1))] sz)) 0 0 (va_A [(a0, .inr (5, [.ref a1, w0_1, w0_2, w0_3, w0_4, w0_5, w0_6, w0_7, w0_8, w0_9, w0_10, w0_11, w0_12])), (a1, .inl (cI, 99, .inl f1))] sz) := by
  refine Met.ofW (cc := cX5_thins) (maxL := 3) (ret := (some .int)) (by decide) rfl ?_
  intro p e s m args below meth c s₁ B hml hv
  obtain ⟨rfl, hsz, hP, hD0, hKU⟩ := hv
  have hx := B.exec
  have hb := B.bytes
  have hr := B.returns
  have hts := atoms_spec (ws := wsX5_thins) B.pre
  have hown : s.vm.findClass RX5 = some m.cls := findClass_of_methodNamed B.named
  have hlocks := B.notSynchronized
  have hK := hKU.1
  have hf_7 := hts (.fieldLink RX5 7 "ThinnedPotsModel" "s" "[I") (by decide +kernel)
  have hi_X5 : ∀ w ∈ u_ws RX5 TX5 13, w ∈ wsX5_thins := by decide +kernel
  subst hsz
  have hD := hD0.self (sz := s.heap.size)
  generalize hAe : va_A [(a0, .inr (5, [.ref a1, w0_1, w0_2, w0_3, w0_4, w0_5, w0_6, w0_7, w0_8, w0_9, w0_10, w0_11, w0_12])), (a1, .inl (cI, 99, .inl f1))] s.heap.size = A at hD ⊢
  have hA : ∀ q : Nat, s.heap.size ≤ q → A q := fun q h => by rw [← hAe]; exact Or.inr h
  have hP : va_P D vwCl [(a0, .inr (5, [.ref a1, w0_1, w0_2, w0_3, w0_4, w0_5, w0_6, w0_7, w0_8, w0_9, w0_10, w0_11, w0_12])), (a1, .inl (cI, 99, .inl f1))] s.heap := hP
  generalize hHe : s.heap = H at hP ⊢
  have hS : va_S A s.heap H [] := by rw [hHe]; exact va_S.rf
  have hl := lv_entry ([.ref a0, .int u1]) (n := 3) (Nat.le_of_ble_eq_true rfl)
  rw [lg_entry_eq]
  generalize (lg_sl ([.ref a0, .int u1]) ++ List.replicate (3 - (lg_sl ([.ref a0, .int u1])).length) Slot.unset).toArray = ls at hl ⊢
  have hl : lv_has ls 3 [(0, .ref a0), (1, .int u1)] := hl
  unfold s_X5_thins at hsp
  refine lv_iload_n hx hb dX5_thins_0 rfl (lv_at hl 1 rfl) ?_
  obtain ⟨r1, hcr1, hsp⟩ := clE hsp
  refine call_z (w1 := []) (ws' := [(a0, .inr (5, [.ref a1, w0_1, w0_2, w0_3, w0_4, w0_5, w0_6, w0_7, w0_8, w0_9, w0_10, w0_11, w0_12])), (a1, .inl (cI, 99, .inl f1))]) (va_runS (As := [.int u1]) (rest := []) ⟨hx, hb, hml, hown, hts⟩ (k_X5_isPot l D cI cZ cC cS H.size u1 r1 hcr1) (va_cwS 1 hts gX5_thins_X5_isPot rfl rfl rfl nd_X5_isPot.2 ⟨Nat.le_of_ble_eq_true rfl, Nat.le_of_ble_eq_true rfl⟩) (PB.preS hKU hP hD [] rfl rfl) rfl rfl hl.1 rfl (lv_room (Nat.le_of_ble_eq_true rfl)) dX5_thins_1 ⟨Nat.zero_le _, Nat.zero_le _⟩) hS hP hD hA [] rfl rfl (by first | (simp only [wset, List.set_cons_zero, List.set_cons_succ]; done) | rfl) rfl (fun H locs hP hD hS hzr1 => ?_)
  refine lv_if_ne (tgt := 9) hx hb dX5_thins_4 (by decide) (fun c2 => ?_) (fun c2 => ?_)
  · have hsp := itF hsp c2
    refine lv_aload_n hx hb dX5_thins_9 rfl (lv_at hl 0 rfl) ?_
    refine lv_iload_n hx hb dX5_thins_10 rfl (lv_at hl 1 rfl) ?_
    obtain ⟨r3, hcr3, hsp⟩ := clE hsp
    refine call_i (w1 := []) (ws' := [(a0, .inr (5, [.ref a1, w0_1, w0_2, w0_3, w0_4, w0_5, w0_6, w0_7, w0_8, w0_9, w0_10, w0_11, w0_12])), (a1, .inl (cI, 99, .inl f1))]) (va_runS (As := [.int u1]) (rest := [.ref a0]) ⟨hx, hb, hml, hown, hts⟩ (k_X5_p l D cI cZ cC cS H.size u1 r3 hcr3) (va_cwS 1 hts gX5_thins_X5_p rfl rfl rfl nd_X5_p.2 ⟨Nat.le_of_ble_eq_true rfl, Nat.le_of_ble_eq_true rfl⟩) (PB.preS hKU hP hD [] rfl rfl) rfl rfl hl.1 rfl (lv_room (Nat.le_of_ble_eq_true rfl)) dX5_thins_11 ⟨Nat.zero_le _, Nat.zero_le _⟩) hS hP hD hA [] rfl rfl (by first | (simp only [wset, List.set_cons_zero, List.set_cons_succ]; done) | rfl) rfl (fun H locs hP hD hS => ?_)
    obtain ⟨r4, hcr4, hsp⟩ := clE hsp
    refine call_i (w1 := [(a0, .inr (5, [.ref a1, w0_1, w0_2, w0_3, w0_4, w0_5, w0_6, w0_7, w0_8, w0_9, w0_10, w0_11, w0_12])), (a1, .inl (cI, 99, .inl f1))]) (ws' := [(a0, .inr (5, [.ref a1, w0_1, w0_2, w0_3, w0_4, w0_5, w0_6, w0_7, w0_8, w0_9, w0_10, w0_11, w0_12])), (a1, .inl (cI, 99, .inl f1))]) (va_runV (As := [.int r3]) (rest := []) ⟨hx, hb, hml, hown, hts⟩ (k_X5_drops l D cI cZ cC cS H.size a0 a1 (w0_1) (w0_2) (w0_3) (w0_4) (w0_5) (w0_6) (w0_7) (w0_8) (w0_9) (w0_10) (w0_11) (w0_12) f1 r3 r4 hcr4) (cwV 1 hts gX5_thins_X5_drops rfl rfl rfl nd_X5_drops ⟨Nat.le_of_ble_eq_true rfl, Nat.le_of_ble_eq_true rfl⟩) (PB.preV (ci := 5) (q0 := 0) hKU hP hD [0, 1] rfl rfl rfl rfl) rfl rfl hl.1 rfl (lv_room (Nat.le_of_ble_eq_true rfl)) dX5_thins_14 ⟨Nat.zero_le _, Nat.zero_le _⟩) hS hP hD hA [0, 1] rfl rfl (by first | (simp only [wset, List.set_cons_zero, List.set_cons_succ]; done) | rfl) rfl (fun H locs hP hD hS => ?_)
    refine lv_istore_n (lv' := [(2, .int r4), (0, .ref a0), (1, .int u1)]) hx hb dX5_thins_17 rfl hl (by decide) rfl (fun ls hl => ?_)
    refine lv_iload_n hx hb dX5_thins_18 rfl (lv_at hl 0 rfl) ?_
    refine lv_if_ne (tgt := 25) hx hb dX5_thins_19 (by decide) (fun c5 => ?_) (fun c5 => ?_)
    · have hsp := itF hsp c5
      refine lv_iconst (v := 3) hx hb dX5_thins_25 (by decide) ?_
      refine lv_iload_n hx hb dX5_thins_26 rfl (lv_at hl 0 rfl) ?_
      refine lv_imul hx hb dX5_thins_27 ?_
      refine lv_bipush (v := 81) hx hb dX5_thins_28 (by decide) ?_
      refine lv_icmp_le (tgt := 36) hx hb dX5_thins_30 (by decide) (fun c6 => ?_) (fun c6 => ?_)
      · have hsp := itT hsp c6
        refine lv_aload_n hx hb dX5_thins_36 rfl (lv_at hl 1 rfl) ?_
        refine va_get (D := D) (ci := 5) (v := .ref a1) (C := RX5) (T := TX5) (N := 13) hx hb hts hi_X5 hown hK hP 0 rfl rfl 0 (by decide) hf_7 (fun _ h9 => h9) rfl dX5_thins_37 ?_
        refine lv_iload_n hx hb dX5_thins_40 rfl (lv_at hl 2 rfl) ?_
        obtain ⟨r7, hcr7, hsp⟩ := clE hsp
        refine call_i (w1 := []) (ws' := [(a0, .inr (5, [.ref a1, w0_1, w0_2, w0_3, w0_4, w0_5, w0_6, w0_7, w0_8, w0_9, w0_10, w0_11, w0_12])), (a1, .inl (cI, 99, .inl f1))]) (va_runS (As := [.int u1]) (rest := [.ref a1]) ⟨hx, hb, hml, hown, hts⟩ (k_X5_p l D cI cZ cC cS H.size u1 r7 hcr7) (va_cwS 1 hts gX5_thins_X5_p rfl rfl rfl nd_X5_p.2 ⟨Nat.le_of_ble_eq_true rfl, Nat.le_of_ble_eq_true rfl⟩) (PB.preS hKU hP hD [] rfl rfl) rfl rfl hl.1 rfl (lv_room (Nat.le_of_ble_eq_true rfl)) dX5_thins_41 ⟨Nat.zero_le _, Nat.zero_le _⟩) hS hP hD hA [] rfl rfl (by first | (simp only [wset, List.set_cons_zero, List.set_cons_succ]; done) | rfl) rfl (fun H locs hP hD hS => ?_)
        refine lv_iconst (v := 3) hx hb dX5_thins_44 (by decide) ?_
        refine lv_iadd hx hb dX5_thins_45 ?_
        refine lv_dup2_11 hx hb dX5_thins_46 rfl rfl ?_
        obtain ⟨x8, ex8, hnx8, hsp⟩ := ldE hsp
        refine r_iald hx hb hK hP 1 0 rfl rfl ex8 hnx8 dX5_thins_47 ?_
        refine lv_iconst (v := 2) hx hb dX5_thins_48 (by decide) ?_
        refine lv_iload_n hx hb dX5_thins_49 rfl (lv_at hl 0 rfl) ?_
        refine lv_imul hx hb dX5_thins_50 ?_
        refine lv_iadd hx hb dX5_thins_51 ?_
        obtain ⟨x9, ex9, hsp⟩ := nmE hsp
        refine r_top ex9 ?_
        obtain ⟨y10, ey10, hny10, hsp⟩ := stoE hsp
        refine r_iast (ws' := [(a0, .inr (5, [.ref a1, w0_1, w0_2, w0_3, w0_4, w0_5, w0_6, w0_7, w0_8, w0_9, w0_10, w0_11, w0_12])), (a1, .inl (cI, 99, .inl y10))]) hx hb hK hP hD hS 1 0 rfl rfl ey10 hny10 rfl dX5_thins_52 (fun H locs hP hD hS => ?_)
        refine lv_aload_n hx hb dX5_thins_53 rfl (lv_at hl 1 rfl) ?_
        refine va_get (D := D) (ci := 5) (v := .ref a1) (C := RX5) (T := TX5) (N := 13) hx hb hts hi_X5 hown hK hP 0 rfl rfl 0 (by decide) hf_7 (fun _ h9 => h9) rfl dX5_thins_54 ?_
        refine lv_iconst (v := 2) hx hb dX5_thins_57 (by decide) ?_
        refine lv_dup2_11 hx hb dX5_thins_58 rfl rfl ?_
        obtain ⟨x11, ex11, hnx11, hsp⟩ := ldE hsp
        refine r_iald hx hb hK hP 1 0 rfl rfl ex11 hnx11 dX5_thins_59 ?_
        refine lv_iconst (v := 2) hx hb dX5_thins_60 (by decide) ?_
        refine lv_iload_n hx hb dX5_thins_61 rfl (lv_at hl 0 rfl) ?_
        refine lv_imul hx hb dX5_thins_62 ?_
        refine lv_iadd hx hb dX5_thins_63 ?_
        obtain ⟨x12, ex12, hsp⟩ := nmE hsp
        refine r_top ex12 ?_
        obtain ⟨y13, ey13, hny13, hsp⟩ := stoE hsp
        refine r_iast (ws' := [(a0, .inr (5, [.ref a1, w0_1, w0_2, w0_3, w0_4, w0_5, w0_6, w0_7, w0_8, w0_9, w0_10, w0_11, w0_12])), (a1, .inl (cI, 99, .inl y13))]) hx hb hK hP hD hS 1 0 rfl rfl ey13 hny13 rfl dX5_thins_64 (fun H locs hP hD hS => ?_)
        refine lv_aload_n hx hb dX5_thins_65 rfl (lv_at hl 1 rfl) ?_
        refine va_get (D := D) (ci := 5) (v := .ref a1) (C := RX5) (T := TX5) (N := 13) hx hb hts hi_X5 hown hK hP 0 rfl rfl 0 (by decide) hf_7 (fun _ h9 => h9) rfl dX5_thins_66 ?_
        refine lv_iload_n hx hb dX5_thins_69 rfl (lv_at hl 2 rfl) ?_
        obtain ⟨r14, hcr14, hsp⟩ := clE hsp
        refine call_i (w1 := []) (ws' := [(a0, .inr (5, [.ref a1, w0_1, w0_2, w0_3, w0_4, w0_5, w0_6, w0_7, w0_8, w0_9, w0_10, w0_11, w0_12])), (a1, .inl (cI, 99, .inl y13))]) (va_runS (As := [.int u1]) (rest := [.ref a1]) ⟨hx, hb, hml, hown, hts⟩ (k_X5_p l D cI cZ cC cS H.size u1 r14 hcr14) (va_cwS 1 hts gX5_thins_X5_p rfl rfl rfl nd_X5_p.2 ⟨Nat.le_of_ble_eq_true rfl, Nat.le_of_ble_eq_true rfl⟩) (PB.preS hKU hP hD [] rfl rfl) rfl rfl hl.1 rfl (lv_room (Nat.le_of_ble_eq_true rfl)) dX5_thins_70 ⟨Nat.zero_le _, Nat.zero_le _⟩) hS hP hD hA [] rfl rfl (by first | (simp only [wset, List.set_cons_zero, List.set_cons_succ]; done) | rfl) rfl (fun H locs hP hD hS => ?_)
        refine lv_iconst (v := 4) hx hb dX5_thins_73 (by decide) ?_
        refine lv_iadd hx hb dX5_thins_74 ?_
        refine lv_dup2_11 hx hb dX5_thins_75 rfl rfl ?_
        obtain ⟨x15, ex15, hnx15, hsp⟩ := ldE hsp
        refine r_iald hx hb hK hP 1 0 rfl rfl ex15 hnx15 dX5_thins_76 ?_
        refine lv_iconst (v := 1) hx hb dX5_thins_77 (by decide) ?_
        refine lv_iadd hx hb dX5_thins_78 ?_
        obtain ⟨x16, ex16, hsp⟩ := nmE hsp
        refine r_top ex16 ?_
        obtain ⟨y17, ey17, hny17, hsp⟩ := stoE hsp
        refine r_iast (ws' := [(a0, .inr (5, [.ref a1, w0_1, w0_2, w0_3, w0_4, w0_5, w0_6, w0_7, w0_8, w0_9, w0_10, w0_11, w0_12])), (a1, .inl (cI, 99, .inl y17))]) hx hb hK hP hD hS 1 0 rfl rfl ey17 hny17 rfl dX5_thins_79 (fun H locs hP hD hS => ?_)
        refine lv_iconst (v := 3) hx hb dX5_thins_80 (by decide) ?_
        refine lv_iload_n hx hb dX5_thins_81 rfl (lv_at hl 0 rfl) ?_
        refine lv_imul hx hb dX5_thins_82 ?_
        have hres := Option.some.inj hsp
        subst hres
        exact W.iret (v := 3 * r4) hx hb hr (fun t ht hW => ⟨⟨3 * r4, (), rfl, rfl, P_at ht hP⟩, hS.F ht⟩) hS.2.2 dX5_thins_83
      have hsp := itF hsp c6
      refine lv_bipush (v := (-4)) hx hb dX5_thins_33 (by decide) ?_
      have hres := Option.some.inj hsp
      subst hres
      exact W.iret (v := (-4)) hx hb hr (fun t ht hW => ⟨⟨(-4), (), rfl, rfl, P_at ht hP⟩, hS.F ht⟩) hS.2.2 dX5_thins_35
    have hsp := itT hsp c5
    refine lv_bipush (v := (-5)) hx hb dX5_thins_22 (by decide) ?_
    have hres := Option.some.inj hsp
    subst hres
    exact W.iret (v := (-5)) hx hb hr (fun t ht hW => ⟨⟨(-5), (), rfl, rfl, P_at ht hP⟩, hS.F ht⟩) hS.2.2 dX5_thins_24
  have hsp := itT hsp c2
  refine lv_iconst (v := (-1)) hx hb dX5_thins_7 (by decide) ?_
  have hres := Option.some.inj hsp
  subst hres
  exact W.iret (v := (-1)) hx hb hr (fun t ht hW => ⟨⟨(-1), (), rfl, rfl, P_at ht hP⟩, hS.F ht⟩) hS.2.2 dX5_thins_8

theorem nd_X5_pours : yX5_pours.cls = RX5 ∧ yX5_pours.cls ≠ "java/lang/invoke/MethodHandle" ∧ yX5_pours.cls ≠ "java/lang/invoke/VarHandle" ∧ (parseMethodDescriptor yX5_pours.desc).map (fun d => d.parameters.length) = some 3 := by decide +kernel
set_option maxHeartbeats 8000000 in
set_option maxRecDepth 100000 in
theorem k_X5_pours (l : Launch) (D : va_G) (cI cZ cC cS : ClassId) (sz : Nat) (a0 a1 a6 : Nat) (w0_1 : Value) (w0_2 : Value) (w0_3 : Value) (w0_4 : Value) (w0_6 : Value) (w0_7 : Value) (w0_8 : Value) (w0_9 : Value) (w0_10 : Value) (w0_11 : Value) (w0_12 : Value) (f1 : Nat → Int32) (f6 : Nat → Int32) (u1 : Int32) (u2 : Int32) (u3 : Int32) (res : Int32 × (Nat → Int32) × (Nat → Int32)) (hsp : s_X5_pours f1 f6 u1 u2 u3 = some res) : Met l yX5_pours wsX5_pours ({ frames := 3, cells := 0, slots := 0, locals := 76 }) (va_Pc [.ref a0, .int u1, .int u2, .int u3] (PB D cI cZ cC cS [(a0, .inr (5, [.ref a1, w0_1, w0_2, w0_3, w0_4, .ref a6, w0_6, w0_7, w0_8, w0_9, w0_10, w0_11, w0_12])), (a1, .inl (cI, 99, .inl f1)), (a6, .inl (cI, 4, .inl f6))] sz)) (va_Qi (fun r (_ : Unit) => r = res.1) (fun _ t => va_P D vwCl [(a0, .inr (5, [.ref a1, w0_1, w0_2, w0_3, w0_4, .ref a6, w0_6, w0_7, w0_8, w0_9, w0_10, w0_11, w0_12])), (a1, .inl (cI, 99, .inl res.2.1)), (a6, .inl (cI, 4, .inl res.2.2))] t.heap) (va_A [(a0, .inr (5, [.ref a1, w0_1, w0_2, w0_3, w0_4, .ref a6, w0_6, w0_7, w0_8, w0_9, w0_10, w0_11, w0_12])), (a1, .inl (cI, 99, .inl f1)), (a6, .inl (cI, 4, .inl f6))] sz)) 0 0 (va_A [(a0, .inr (5, [.ref a1, w0_1, w0_2, w0_3, w0_4, .ref a6, w0_6, w0_7, w0_8, w0_9, w0_10, w0_11, w0_12])), (a1, .inl (cI, 99, .inl f1)), (a6, .inl (cI, 4, .inl f6))] sz) := by
  refine Met.ofW (cc := cX5_pours) (maxL := 4) (ret := (some .int)) (by decide) rfl ?_
  intro p e s m args below meth c s₁ B hml hv
  obtain ⟨rfl, hsz, hP, hD0, hKU⟩ := hv
  have hx := B.exec
  have hb := B.bytes
  have hr := B.returns
  have hts := atoms_spec (ws := wsX5_pours) B.pre
  have hown : s.vm.findClass RX5 = some m.cls := findClass_of_methodNamed B.named
  have hlocks := B.notSynchronized
  have hK := hKU.1
  subst hsz
  have hD := hD0.self (sz := s.heap.size)
  generalize hAe : va_A [(a0, .inr (5, [.ref a1, w0_1, w0_2, w0_3, w0_4, .ref a6, w0_6, w0_7, w0_8, w0_9, w0_10, w0_11, w0_12])), (a1, .inl (cI, 99, .inl f1)), (a6, .inl (cI, 4, .inl f6))] s.heap.size = A at hD ⊢
  have hA : ∀ q : Nat, s.heap.size ≤ q → A q := fun q h => by rw [← hAe]; exact Or.inr h
  have hP : va_P D vwCl [(a0, .inr (5, [.ref a1, w0_1, w0_2, w0_3, w0_4, .ref a6, w0_6, w0_7, w0_8, w0_9, w0_10, w0_11, w0_12])), (a1, .inl (cI, 99, .inl f1)), (a6, .inl (cI, 4, .inl f6))] s.heap := hP
  generalize hHe : s.heap = H at hP ⊢
  have hS : va_S A s.heap H [] := by rw [hHe]; exact va_S.rf
  have hl := lv_entry ([.ref a0, .int u1, .int u2, .int u3]) (n := 4) (Nat.le_of_ble_eq_true rfl)
  rw [lg_entry_eq]
  generalize (lg_sl ([.ref a0, .int u1, .int u2, .int u3]) ++ List.replicate (4 - (lg_sl ([.ref a0, .int u1, .int u2, .int u3])).length) Slot.unset).toArray = ls at hl ⊢
  have hl : lv_has ls 4 [(0, .ref a0), (1, .int u1), (2, .int u2), (3, .int u3)] := hl
  unfold s_X5_pours at hsp
  refine lv_iload_n hx hb dX5_pours_0 rfl (lv_at hl 1 rfl) ?_
  obtain ⟨r1, hcr1, hsp⟩ := clE hsp
  refine call_z (w1 := []) (ws' := [(a0, .inr (5, [.ref a1, w0_1, w0_2, w0_3, w0_4, .ref a6, w0_6, w0_7, w0_8, w0_9, w0_10, w0_11, w0_12])), (a1, .inl (cI, 99, .inl f1)), (a6, .inl (cI, 4, .inl f6))]) (va_runS (As := [.int u1]) (rest := []) ⟨hx, hb, hml, hown, hts⟩ (k_X5_isPot l D cI cZ cC cS H.size u1 r1 hcr1) (va_cwS 1 hts gX5_pours_X5_isPot rfl rfl rfl nd_X5_isPot.2 ⟨Nat.le_of_ble_eq_true rfl, Nat.le_of_ble_eq_true rfl⟩) (PB.preS hKU hP hD [] rfl rfl) rfl rfl hl.1 rfl (lv_room (Nat.le_of_ble_eq_true rfl)) dX5_pours_1 ⟨Nat.zero_le _, Nat.zero_le _⟩) hS hP hD hA [] rfl rfl (by first | (simp only [wset, List.set_cons_zero, List.set_cons_succ]; done) | rfl) rfl (fun H locs hP hD hS hzr1 => ?_)
  refine lv_if_eq (tgt := 14) hx hb dX5_pours_4 (by decide) (fun c2 => ?_) (fun c2 => ?_)
  · have hsp := itT hsp c2
    refine lv_iconst (v := (-1)) hx hb dX5_pours_14 (by decide) ?_
    have hres := Option.some.inj hsp
    subst hres
    exact W.iret (v := (-1)) hx hb hr (fun t ht hW => ⟨⟨(-1), (), rfl, rfl, P_at ht hP⟩, hS.F ht⟩) hS.2.2 dX5_pours_15
  have hsp := itF hsp c2
  refine lv_iload_n hx hb dX5_pours_7 rfl (lv_at hl 2 rfl) ?_
  obtain ⟨r3, hcr3, hsp⟩ := clE hsp
  refine call_z (w1 := []) (ws' := [(a0, .inr (5, [.ref a1, w0_1, w0_2, w0_3, w0_4, .ref a6, w0_6, w0_7, w0_8, w0_9, w0_10, w0_11, w0_12])), (a1, .inl (cI, 99, .inl f1)), (a6, .inl (cI, 4, .inl f6))]) (va_runS (As := [.int u2]) (rest := []) ⟨hx, hb, hml, hown, hts⟩ (k_X5_isPot l D cI cZ cC cS H.size u2 r3 hcr3) (va_cwS 1 hts gX5_pours_X5_isPot rfl rfl rfl nd_X5_isPot.2 ⟨Nat.le_of_ble_eq_true rfl, Nat.le_of_ble_eq_true rfl⟩) (PB.preS hKU hP hD [] rfl rfl) rfl rfl hl.1 rfl (lv_room (Nat.le_of_ble_eq_true rfl)) dX5_pours_8 ⟨Nat.zero_le _, Nat.zero_le _⟩) hS hP hD hA [] rfl rfl (by first | (simp only [wset, List.set_cons_zero, List.set_cons_succ]; done) | rfl) rfl (fun H locs hP hD hS hzr3 => ?_)
  refine lv_if_ne (tgt := 16) hx hb dX5_pours_11 (by decide) (fun c4 => ?_) (fun c4 => ?_)
  · have hsp := itF hsp c4
    refine lv_iload_n hx hb dX5_pours_16 rfl (lv_at hl 1 rfl) ?_
    refine lv_iload_n hx hb dX5_pours_17 rfl (lv_at hl 2 rfl) ?_
    refine lv_icmp_eq (tgt := 31) hx hb dX5_pours_18 (by decide) (fun c5 => ?_) (fun c5 => ?_)
    · have hsp := itT hsp c5
      refine lv_bipush (v := (-2)) hx hb dX5_pours_31 (by decide) ?_
      have hres := Option.some.inj hsp
      subst hres
      exact W.iret (v := (-2)) hx hb hr (fun t ht hW => ⟨⟨(-2), (), rfl, rfl, P_at ht hP⟩, hS.F ht⟩) hS.2.2 dX5_pours_33
    have hsp := itF hsp c5
    refine lv_iload_n hx hb dX5_pours_21 rfl (lv_at hl 3 rfl) ?_
    refine lv_iconst (v := 1) hx hb dX5_pours_22 (by decide) ?_
    refine lv_bipush (v := 81) hx hb dX5_pours_23 (by decide) ?_
    obtain ⟨r6, hcr6, hsp⟩ := clE hsp
    refine call_z (w1 := []) (ws' := [(a0, .inr (5, [.ref a1, w0_1, w0_2, w0_3, w0_4, .ref a6, w0_6, w0_7, w0_8, w0_9, w0_10, w0_11, w0_12])), (a1, .inl (cI, 99, .inl f1)), (a6, .inl (cI, 4, .inl f6))]) (va_runS (As := [.int u3, .int 1, .int 81]) (rest := []) ⟨hx, hb, hml, hown, hts⟩ (k_X5_in l D cI cZ cC cS H.size u3 1 81 r6 hcr6) (va_cwS 3 hts gX5_pours_X5_in rfl rfl rfl nd_X5_in.2 ⟨Nat.le_of_ble_eq_true rfl, Nat.le_of_ble_eq_true rfl⟩) (PB.preS hKU hP hD [] rfl rfl) rfl rfl hl.1 rfl (lv_room (Nat.le_of_ble_eq_true rfl)) dX5_pours_25 ⟨Nat.zero_le _, Nat.zero_le _⟩) hS hP hD hA [] rfl rfl (by first | (simp only [wset, List.set_cons_zero, List.set_cons_succ]; done) | rfl) rfl (fun H locs hP hD hS hzr6 => ?_)
    refine lv_if_ne (tgt := 34) hx hb dX5_pours_28 (by decide) (fun c7 => ?_) (fun c7 => ?_)
    · have hsp := itF hsp c7
      refine lv_aload_n hx hb dX5_pours_34 rfl (lv_at hl 0 rfl) ?_
      refine lv_iload_n hx hb dX5_pours_35 rfl (lv_at hl 1 rfl) ?_
      obtain ⟨r8, hcr8, hsp⟩ := clE hsp
      refine call_i (w1 := []) (ws' := [(a0, .inr (5, [.ref a1, w0_1, w0_2, w0_3, w0_4, .ref a6, w0_6, w0_7, w0_8, w0_9, w0_10, w0_11, w0_12])), (a1, .inl (cI, 99, .inl f1)), (a6, .inl (cI, 4, .inl f6))]) (va_runS (As := [.int u1]) (rest := [.ref a0]) ⟨hx, hb, hml, hown, hts⟩ (k_X5_p l D cI cZ cC cS H.size u1 r8 hcr8) (va_cwS 1 hts gX5_pours_X5_p rfl rfl rfl nd_X5_p.2 ⟨Nat.le_of_ble_eq_true rfl, Nat.le_of_ble_eq_true rfl⟩) (PB.preS hKU hP hD [] rfl rfl) rfl rfl hl.1 rfl (lv_room (Nat.le_of_ble_eq_true rfl)) dX5_pours_36 ⟨Nat.zero_le _, Nat.zero_le _⟩) hS hP hD hA [] rfl rfl (by first | (simp only [wset, List.set_cons_zero, List.set_cons_succ]; done) | rfl) rfl (fun H locs hP hD hS => ?_)
      obtain ⟨r9, hcr9, hsp⟩ := clE hsp
      refine call_i (w1 := [(a0, .inr (5, [.ref a1, w0_1, w0_2, w0_3, w0_4, .ref a6, w0_6, w0_7, w0_8, w0_9, w0_10, w0_11, w0_12])), (a1, .inl (cI, 99, .inl f1))]) (ws' := [(a0, .inr (5, [.ref a1, w0_1, w0_2, w0_3, w0_4, .ref a6, w0_6, w0_7, w0_8, w0_9, w0_10, w0_11, w0_12])), (a1, .inl (cI, 99, .inl f1)), (a6, .inl (cI, 4, .inl f6))]) (va_runV (As := [.int r8]) (rest := []) ⟨hx, hb, hml, hown, hts⟩ (k_X5_drops l D cI cZ cC cS H.size a0 a1 (w0_1) (w0_2) (w0_3) (w0_4) (.ref a6) (w0_6) (w0_7) (w0_8) (w0_9) (w0_10) (w0_11) (w0_12) f1 r8 r9 hcr9) (cwV 1 hts gX5_pours_X5_drops rfl rfl rfl nd_X5_drops ⟨Nat.le_of_ble_eq_true rfl, Nat.le_of_ble_eq_true rfl⟩) (PB.preV (ci := 5) (q0 := 0) hKU hP hD [0, 1] rfl rfl rfl rfl) rfl rfl hl.1 rfl (lv_room (Nat.le_of_ble_eq_true rfl)) dX5_pours_39 ⟨Nat.zero_le _, Nat.zero_le _⟩) hS hP hD hA [0, 1] rfl rfl (by first | (simp only [wset, List.set_cons_zero, List.set_cons_succ]; done) | rfl) rfl (fun H locs hP hD hS => ?_)
      refine lv_iload_n hx hb dX5_pours_42 rfl (lv_at hl 3 rfl) ?_
      refine lv_icmp_ge (tgt := 49) hx hb dX5_pours_43 (by decide) (fun c10 => ?_) (fun c10 => ?_)
      · have hsp := itT hsp c10
        refine lv_aload_n hx hb dX5_pours_49 rfl (lv_at hl 0 rfl) ?_
        refine lv_iload_n hx hb dX5_pours_50 rfl (lv_at hl 2 rfl) ?_
        obtain ⟨r11, hcr11, hsp⟩ := clE hsp
        refine call_i (w1 := []) (ws' := [(a0, .inr (5, [.ref a1, w0_1, w0_2, w0_3, w0_4, .ref a6, w0_6, w0_7, w0_8, w0_9, w0_10, w0_11, w0_12])), (a1, .inl (cI, 99, .inl f1)), (a6, .inl (cI, 4, .inl f6))]) (va_runS (As := [.int u2]) (rest := [.ref a0]) ⟨hx, hb, hml, hown, hts⟩ (k_X5_p l D cI cZ cC cS H.size u2 r11 hcr11) (va_cwS 1 hts gX5_pours_X5_p rfl rfl rfl nd_X5_p.2 ⟨Nat.le_of_ble_eq_true rfl, Nat.le_of_ble_eq_true rfl⟩) (PB.preS hKU hP hD [] rfl rfl) rfl rfl hl.1 rfl (lv_room (Nat.le_of_ble_eq_true rfl)) dX5_pours_51 ⟨Nat.zero_le _, Nat.zero_le _⟩) hS hP hD hA [] rfl rfl (by first | (simp only [wset, List.set_cons_zero, List.set_cons_succ]; done) | rfl) rfl (fun H locs hP hD hS => ?_)
        obtain ⟨r12, hcr12, hsp⟩ := clE hsp
        refine call_i (w1 := [(a0, .inr (5, [.ref a1, w0_1, w0_2, w0_3, w0_4, .ref a6, w0_6, w0_7, w0_8, w0_9, w0_10, w0_11, w0_12])), (a1, .inl (cI, 99, .inl f1))]) (ws' := [(a0, .inr (5, [.ref a1, w0_1, w0_2, w0_3, w0_4, .ref a6, w0_6, w0_7, w0_8, w0_9, w0_10, w0_11, w0_12])), (a1, .inl (cI, 99, .inl f1)), (a6, .inl (cI, 4, .inl f6))]) (va_runV (As := [.int r11]) (rest := []) ⟨hx, hb, hml, hown, hts⟩ (k_X5_drops l D cI cZ cC cS H.size a0 a1 (w0_1) (w0_2) (w0_3) (w0_4) (.ref a6) (w0_6) (w0_7) (w0_8) (w0_9) (w0_10) (w0_11) (w0_12) f1 r11 r12 hcr12) (cwV 1 hts gX5_pours_X5_drops rfl rfl rfl nd_X5_drops ⟨Nat.le_of_ble_eq_true rfl, Nat.le_of_ble_eq_true rfl⟩) (PB.preV (ci := 5) (q0 := 0) hKU hP hD [0, 1] rfl rfl rfl rfl) rfl rfl hl.1 rfl (lv_room (Nat.le_of_ble_eq_true rfl)) dX5_pours_54 ⟨Nat.zero_le _, Nat.zero_le _⟩) hS hP hD hA [0, 1] rfl rfl (by first | (simp only [wset, List.set_cons_zero, List.set_cons_succ]; done) | rfl) rfl (fun H locs hP hD hS => ?_)
        refine lv_iload_n hx hb dX5_pours_57 rfl (lv_at hl 3 rfl) ?_
        refine lv_iadd hx hb dX5_pours_58 ?_
        refine lv_bipush (v := 81) hx hb dX5_pours_59 (by decide) ?_
        refine lv_icmp_le (tgt := 67) hx hb dX5_pours_61 (by decide) (fun c13 => ?_) (fun c13 => ?_)
        · have hsp := itT hsp c13
          refine lv_aload_n hx hb dX5_pours_67 rfl (lv_at hl 0 rfl) ?_
          refine lv_iload_n hx hb dX5_pours_68 rfl (lv_at hl 1 rfl) ?_
          obtain ⟨r14, hcr14, hsp⟩ := clE hsp
          refine call_i (w1 := []) (ws' := [(a0, .inr (5, [.ref a1, w0_1, w0_2, w0_3, w0_4, .ref a6, w0_6, w0_7, w0_8, w0_9, w0_10, w0_11, w0_12])), (a1, .inl (cI, 99, .inl f1)), (a6, .inl (cI, 4, .inl f6))]) (va_runS (As := [.int u1]) (rest := [.ref a0]) ⟨hx, hb, hml, hown, hts⟩ (k_X5_p l D cI cZ cC cS H.size u1 r14 hcr14) (va_cwS 1 hts gX5_pours_X5_p rfl rfl rfl nd_X5_p.2 ⟨Nat.le_of_ble_eq_true rfl, Nat.le_of_ble_eq_true rfl⟩) (PB.preS hKU hP hD [] rfl rfl) rfl rfl hl.1 rfl (lv_room (Nat.le_of_ble_eq_true rfl)) dX5_pours_69 ⟨Nat.zero_le _, Nat.zero_le _⟩) hS hP hD hA [] rfl rfl (by first | (simp only [wset, List.set_cons_zero, List.set_cons_succ]; done) | rfl) rfl (fun H locs hP hD hS => ?_)
          refine lv_iload_n hx hb dX5_pours_72 rfl (lv_at hl 3 rfl) ?_
          obtain ⟨r15, hcr15, hsp⟩ := clE hsp
          refine call_v (w1 := [(a0, .inr (5, [.ref a1, w0_1, w0_2, w0_3, w0_4, .ref a6, w0_6, w0_7, w0_8, w0_9, w0_10, w0_11, w0_12])), (a1, .inl (cI, 99, .inl r15.1)), (a6, .inl (cI, 4, .inl r15.2))]) (ws' := [(a0, .inr (5, [.ref a1, w0_1, w0_2, w0_3, w0_4, .ref a6, w0_6, w0_7, w0_8, w0_9, w0_10, w0_11, w0_12])), (a1, .inl (cI, 99, .inl r15.1)), (a6, .inl (cI, 4, .inl r15.2))]) (va_runV (As := [.int r14, .int u3]) (rest := []) ⟨hx, hb, hml, hown, hts⟩ (k_X5_takes l D cI cZ cC cS H.size a0 a1 a6 (w0_1) (w0_2) (w0_3) (w0_4) (w0_6) (w0_7) (w0_8) (w0_9) (w0_10) (w0_11) (w0_12) f1 f6 r14 u3 r15 hcr15) (cwV 2 hts gX5_pours_X5_takes rfl rfl rfl nd_X5_takes ⟨Nat.le_of_ble_eq_true rfl, Nat.le_of_ble_eq_true rfl⟩) (PB.preV (ci := 5) (q0 := 0) hKU hP hD [0, 1, 2] rfl rfl rfl rfl) rfl rfl hl.1 rfl (lv_room (Nat.le_of_ble_eq_true rfl)) dX5_pours_73 ⟨Nat.zero_le _, Nat.zero_le _⟩) hS hP hD hA [0, 1, 2] rfl rfl (by first | (simp only [wset, List.set_cons_zero, List.set_cons_succ]; done) | rfl) rfl (fun H locs hP hD hS => ?_)
          refine lv_aload_n hx hb dX5_pours_76 rfl (lv_at hl 0 rfl) ?_
          refine lv_iload_n hx hb dX5_pours_77 rfl (lv_at hl 2 rfl) ?_
          obtain ⟨r16, hcr16, hsp⟩ := clE hsp
          refine call_i (w1 := []) (ws' := [(a0, .inr (5, [.ref a1, w0_1, w0_2, w0_3, w0_4, .ref a6, w0_6, w0_7, w0_8, w0_9, w0_10, w0_11, w0_12])), (a1, .inl (cI, 99, .inl r15.1)), (a6, .inl (cI, 4, .inl r15.2))]) (va_runS (As := [.int u2]) (rest := [.ref a0]) ⟨hx, hb, hml, hown, hts⟩ (k_X5_p l D cI cZ cC cS H.size u2 r16 hcr16) (va_cwS 1 hts gX5_pours_X5_p rfl rfl rfl nd_X5_p.2 ⟨Nat.le_of_ble_eq_true rfl, Nat.le_of_ble_eq_true rfl⟩) (PB.preS hKU hP hD [] rfl rfl) rfl rfl hl.1 rfl (lv_room (Nat.le_of_ble_eq_true rfl)) dX5_pours_78 ⟨Nat.zero_le _, Nat.zero_le _⟩) hS hP hD hA [] rfl rfl (by first | (simp only [wset, List.set_cons_zero, List.set_cons_succ]; done) | rfl) rfl (fun H locs hP hD hS => ?_)
          obtain ⟨r17, hcr17, hsp⟩ := clE hsp
          refine call_v (w1 := [(a0, .inr (5, [.ref a1, w0_1, w0_2, w0_3, w0_4, .ref a6, w0_6, w0_7, w0_8, w0_9, w0_10, w0_11, w0_12])), (a1, .inl (cI, 99, .inl r17)), (a6, .inl (cI, 4, .inl r15.2))]) (ws' := [(a0, .inr (5, [.ref a1, w0_1, w0_2, w0_3, w0_4, .ref a6, w0_6, w0_7, w0_8, w0_9, w0_10, w0_11, w0_12])), (a1, .inl (cI, 99, .inl r17)), (a6, .inl (cI, 4, .inl r15.2))]) (va_runV (As := [.int r16]) (rest := []) ⟨hx, hb, hml, hown, hts⟩ (k_X5_puts l D cI cZ cC cS H.size a0 a1 a6 (w0_1) (w0_2) (w0_3) (w0_4) (w0_6) (w0_7) (w0_8) (w0_9) (w0_10) (w0_11) (w0_12) r15.1 r15.2 r16 r17 hcr17) (cwV 1 hts gX5_pours_X5_puts rfl rfl rfl nd_X5_puts ⟨Nat.le_of_ble_eq_true rfl, Nat.le_of_ble_eq_true rfl⟩) (PB.preV (ci := 5) (q0 := 0) hKU hP hD [0, 1, 2] rfl rfl rfl rfl) rfl rfl hl.1 rfl (lv_room (Nat.le_of_ble_eq_true rfl)) dX5_pours_81 ⟨Nat.zero_le _, Nat.zero_le _⟩) hS hP hD hA [0, 1, 2] rfl rfl (by first | (simp only [wset, List.set_cons_zero, List.set_cons_succ]; done) | rfl) rfl (fun H locs hP hD hS => ?_)
          refine lv_aload_n hx hb dX5_pours_84 rfl (lv_at hl 0 rfl) ?_
          refine lv_iload_n hx hb dX5_pours_85 rfl (lv_at hl 2 rfl) ?_
          obtain ⟨r18, hcr18, hsp⟩ := clE hsp
          refine call_i (w1 := []) (ws' := [(a0, .inr (5, [.ref a1, w0_1, w0_2, w0_3, w0_4, .ref a6, w0_6, w0_7, w0_8, w0_9, w0_10, w0_11, w0_12])), (a1, .inl (cI, 99, .inl r17)), (a6, .inl (cI, 4, .inl r15.2))]) (va_runS (As := [.int u2]) (rest := [.ref a0]) ⟨hx, hb, hml, hown, hts⟩ (k_X5_p l D cI cZ cC cS H.size u2 r18 hcr18) (va_cwS 1 hts gX5_pours_X5_p rfl rfl rfl nd_X5_p.2 ⟨Nat.le_of_ble_eq_true rfl, Nat.le_of_ble_eq_true rfl⟩) (PB.preS hKU hP hD [] rfl rfl) rfl rfl hl.1 rfl (lv_room (Nat.le_of_ble_eq_true rfl)) dX5_pours_86 ⟨Nat.zero_le _, Nat.zero_le _⟩) hS hP hD hA [] rfl rfl (by first | (simp only [wset, List.set_cons_zero, List.set_cons_succ]; done) | rfl) rfl (fun H locs hP hD hS => ?_)
          obtain ⟨r19, hcr19, hsp⟩ := clE hsp
          refine call_i (w1 := [(a0, .inr (5, [.ref a1, w0_1, w0_2, w0_3, w0_4, .ref a6, w0_6, w0_7, w0_8, w0_9, w0_10, w0_11, w0_12])), (a1, .inl (cI, 99, .inl r17))]) (ws' := [(a0, .inr (5, [.ref a1, w0_1, w0_2, w0_3, w0_4, .ref a6, w0_6, w0_7, w0_8, w0_9, w0_10, w0_11, w0_12])), (a1, .inl (cI, 99, .inl r17)), (a6, .inl (cI, 4, .inl r15.2))]) (va_runV (As := [.int r18]) (rest := []) ⟨hx, hb, hml, hown, hts⟩ (k_X5_drops l D cI cZ cC cS H.size a0 a1 (w0_1) (w0_2) (w0_3) (w0_4) (.ref a6) (w0_6) (w0_7) (w0_8) (w0_9) (w0_10) (w0_11) (w0_12) r17 r18 r19 hcr19) (cwV 1 hts gX5_pours_X5_drops rfl rfl rfl nd_X5_drops ⟨Nat.le_of_ble_eq_true rfl, Nat.le_of_ble_eq_true rfl⟩) (PB.preV (ci := 5) (q0 := 0) hKU hP hD [0, 1] rfl rfl rfl rfl) rfl rfl hl.1 rfl (lv_room (Nat.le_of_ble_eq_true rfl)) dX5_pours_89 ⟨Nat.zero_le _, Nat.zero_le _⟩) hS hP hD hA [0, 1] rfl rfl (by first | (simp only [wset, List.set_cons_zero, List.set_cons_succ]; done) | rfl) rfl (fun H locs hP hD hS => ?_)
          have hres := Option.some.inj hsp
          subst hres
          exact W.iret (v := r19) hx hb hr (fun t ht hW => ⟨⟨r19, (), rfl, rfl, P_at ht hP⟩, hS.F ht⟩) hS.2.2 dX5_pours_92
        have hsp := itF hsp c13
        refine lv_bipush (v := (-4)) hx hb dX5_pours_64 (by decide) ?_
        have hres := Option.some.inj hsp
        subst hres
        exact W.iret (v := (-4)) hx hb hr (fun t ht hW => ⟨⟨(-4), (), rfl, rfl, P_at ht hP⟩, hS.F ht⟩) hS.2.2 dX5_pours_66
      have hsp := itF hsp c10
      refine lv_bipush (v := (-5)) hx hb dX5_pours_46 (by decide) ?_
      have hres := Option.some.inj hsp
      subst hres
      exact W.iret (v := (-5)) hx hb hr (fun t ht hW => ⟨⟨(-5), (), rfl, rfl, P_at ht hP⟩, hS.F ht⟩) hS.2.2 dX5_pours_48
    have hsp := itT hsp c7
    refine lv_bipush (v := (-2)) hx hb dX5_pours_31 (by decide) ?_
    have hres := Option.some.inj hsp
    subst hres
    exact W.iret (v := (-2)) hx hb hr (fun t ht hW => ⟨⟨(-2), (), rfl, rfl, P_at ht hP⟩, hS.F ht⟩) hS.2.2 dX5_pours_33
  have hsp := itT hsp c4
  refine lv_iconst (v := (-1)) hx hb dX5_pours_14 (by decide) ?_
  have hres := Option.some.inj hsp
  subst hres
  exact W.iret (v := (-1)) hx hb hr (fun t ht hW => ⟨⟨(-1), (), rfl, rfl, P_at ht hP⟩, hS.F ht⟩) hS.2.2 dX5_pours_15

theorem nd_X5_paints : yX5_paints.cls = RX5 ∧ yX5_paints.cls ≠ "java/lang/invoke/MethodHandle" ∧ yX5_paints.cls ≠ "java/lang/invoke/VarHandle" ∧ (parseMethodDescriptor yX5_paints.desc).map (fun d => d.parameters.length) = some 1 := by decide +kernel
set_option maxHeartbeats 8000000 in
set_option maxRecDepth 100000 in
theorem k_X5_paints (l : Launch) (D : va_G) (cI cZ cC cS : ClassId) (sz : Nat) (a0 a1 a6 a7 : Nat) (w0_1 : Value) (w0_2 : Value) (w0_3 : Value) (w0_4 : Value) (w0_7 : Value) (w0_8 : Value) (w0_9 : Value) (w0_10 : Value) (w0_11 : Value) (w0_12 : Value) (f1 : Nat → Int32) (f6 : Nat → Int32) (f7 : Nat → Int32) (u1 : Int32) (res : Int32 × (Nat → Int32) × (Nat → Int32) × (Nat → Int32)) (hsp : s_X5_paints f1 f6 f7 u1 = some res) : Met l yX5_paints wsX5_paints ({ frames := 3, cells := 0, slots := 0, locals := 76 }) (va_Pc [.ref a0, .int u1] (PB D cI cZ cC cS [(a0, .inr (5, [.ref a1, w0_1, w0_2, w0_3, w0_4, .ref a6, .ref a7, w0_7, w0_8, w0_9, w0_10, w0_11, w0_12])), (a1, .inl (cI, 99, .inl f1)), (a6, .inl (cI, 4, .inl f6)), (a7, .inl (cI, 3, .inl f7))] sz)) (va_Qi (fun r (_ : Unit) => r = res.1) (fun _ t => va_P D vwCl [(a0, .inr (5, [.ref a1, w0_1, w0_2, w0_3, w0_4, .ref a6, .ref a7, w0_7, w0_8, w0_9, w0_10, w0_11, w0_12])), (a1, .inl (cI, 99, .inl res.2.1)), (a6, .inl (cI, 4, .inl res.2.2.1)), (a7, .inl (cI, 3, .inl res.2.2.2))] t.heap) (va_A [(a0, .inr (5, [.ref a1, w0_1, w0_2, w0_3, w0_4, .ref a6, .ref a7, w0_7, w0_8, w0_9, w0_10, w0_11, w0_12])), (a1, .inl (cI, 99, .inl f1)), (a6, .inl (cI, 4, .inl f6)), (a7, .inl (cI, 3, .inl f7))] sz)) 0 0 (va_A [(a0, .inr (5, [.ref a1, w0_1, w0_2, w0_3, w0_4, .ref a6, .ref a7, w0_7, w0_8, w0_9, w0_10, w0_11, w0_12])), (a1, .inl (cI, 99, .inl f1)), (a6, .inl (cI, 4, .inl f6)), (a7, .inl (cI, 3, .inl f7))] sz) := by
  refine Met.ofW (cc := cX5_paints) (maxL := 3) (ret := (some .int)) (by decide) rfl ?_
  intro p e s m args below meth c s₁ B hml hv
  obtain ⟨rfl, hsz, hP, hD0, hKU⟩ := hv
  have hx := B.exec
  have hb := B.bytes
  have hr := B.returns
  have hts := atoms_spec (ws := wsX5_paints) B.pre
  have hown : s.vm.findClass RX5 = some m.cls := findClass_of_methodNamed B.named
  have hlocks := B.notSynchronized
  have hK := hKU.1
  have hf_7 := hts (.fieldLink RX5 7 "ThinnedPotsModel" "s" "[I") (by decide +kernel)
  have hi_X5 : ∀ w ∈ u_ws RX5 TX5 13, w ∈ wsX5_paints := by decide +kernel
  have hf_29 := hts (.fieldLink RX5 29 "ThinnedPotsModel" "shade" "[I") (by decide +kernel)
  subst hsz
  have hD := hD0.self (sz := s.heap.size)
  generalize hAe : va_A [(a0, .inr (5, [.ref a1, w0_1, w0_2, w0_3, w0_4, .ref a6, .ref a7, w0_7, w0_8, w0_9, w0_10, w0_11, w0_12])), (a1, .inl (cI, 99, .inl f1)), (a6, .inl (cI, 4, .inl f6)), (a7, .inl (cI, 3, .inl f7))] s.heap.size = A at hD ⊢
  have hA : ∀ q : Nat, s.heap.size ≤ q → A q := fun q h => by rw [← hAe]; exact Or.inr h
  have hP : va_P D vwCl [(a0, .inr (5, [.ref a1, w0_1, w0_2, w0_3, w0_4, .ref a6, .ref a7, w0_7, w0_8, w0_9, w0_10, w0_11, w0_12])), (a1, .inl (cI, 99, .inl f1)), (a6, .inl (cI, 4, .inl f6)), (a7, .inl (cI, 3, .inl f7))] s.heap := hP
  generalize hHe : s.heap = H at hP ⊢
  have hS : va_S A s.heap H [] := by rw [hHe]; exact va_S.rf
  have hl := lv_entry ([.ref a0, .int u1]) (n := 3) (Nat.le_of_ble_eq_true rfl)
  rw [lg_entry_eq]
  generalize (lg_sl ([.ref a0, .int u1]) ++ List.replicate (3 - (lg_sl ([.ref a0, .int u1])).length) Slot.unset).toArray = ls at hl ⊢
  have hl : lv_has ls 3 [(0, .ref a0), (1, .int u1)] := hl
  unfold s_X5_paints at hsp
  refine lv_iload_n hx hb dX5_paints_0 rfl (lv_at hl 1 rfl) ?_
  obtain ⟨r1, hcr1, hsp⟩ := clE hsp
  refine call_z (w1 := []) (ws' := [(a0, .inr (5, [.ref a1, w0_1, w0_2, w0_3, w0_4, .ref a6, .ref a7, w0_7, w0_8, w0_9, w0_10, w0_11, w0_12])), (a1, .inl (cI, 99, .inl f1)), (a6, .inl (cI, 4, .inl f6)), (a7, .inl (cI, 3, .inl f7))]) (va_runS (As := [.int u1]) (rest := []) ⟨hx, hb, hml, hown, hts⟩ (k_X5_isPanel l D cI cZ cC cS H.size u1 r1 hcr1) (va_cwS 1 hts gX5_paints_X5_isPanel rfl rfl rfl nd_X5_isPanel.2 ⟨Nat.le_of_ble_eq_true rfl, Nat.le_of_ble_eq_true rfl⟩) (PB.preS hKU hP hD [] rfl rfl) rfl rfl hl.1 rfl (lv_room (Nat.le_of_ble_eq_true rfl)) dX5_paints_1 ⟨Nat.zero_le _, Nat.zero_le _⟩) hS hP hD hA [] rfl rfl (by first | (simp only [wset, List.set_cons_zero, List.set_cons_succ]; done) | rfl) rfl (fun H locs hP hD hS hzr1 => ?_)
  refine lv_if_ne (tgt := 9) hx hb dX5_paints_4 (by decide) (fun c2 => ?_) (fun c2 => ?_)
  · have hsp := itF hsp c2
    refine lv_aload_n hx hb dX5_paints_9 rfl (lv_at hl 0 rfl) ?_
    refine lv_bipush (v := 47) hx hb dX5_paints_10 (by decide) ?_
    obtain ⟨r3, hcr3, hsp⟩ := clE hsp
    refine call_i (w1 := [(a0, .inr (5, [.ref a1, w0_1, w0_2, w0_3, w0_4, .ref a6, .ref a7, w0_7, w0_8, w0_9, w0_10, w0_11, w0_12])), (a1, .inl (cI, 99, .inl f1))]) (ws' := [(a0, .inr (5, [.ref a1, w0_1, w0_2, w0_3, w0_4, .ref a6, .ref a7, w0_7, w0_8, w0_9, w0_10, w0_11, w0_12])), (a1, .inl (cI, 99, .inl f1)), (a6, .inl (cI, 4, .inl f6)), (a7, .inl (cI, 3, .inl f7))]) (va_runV (As := [.int 47]) (rest := []) ⟨hx, hb, hml, hown, hts⟩ (k_X5_drops l D cI cZ cC cS H.size a0 a1 (w0_1) (w0_2) (w0_3) (w0_4) (.ref a6) (.ref a7) (w0_7) (w0_8) (w0_9) (w0_10) (w0_11) (w0_12) f1 47 r3 hcr3) (cwV 1 hts gX5_paints_X5_drops rfl rfl rfl nd_X5_drops ⟨Nat.le_of_ble_eq_true rfl, Nat.le_of_ble_eq_true rfl⟩) (PB.preV (ci := 5) (q0 := 0) hKU hP hD [0, 1] rfl rfl rfl rfl) rfl rfl hl.1 rfl (lv_room (Nat.le_of_ble_eq_true rfl)) dX5_paints_12 ⟨Nat.zero_le _, Nat.zero_le _⟩) hS hP hD hA [0, 1] rfl rfl (by first | (simp only [wset, List.set_cons_zero, List.set_cons_succ]; done) | rfl) rfl (fun H locs hP hD hS => ?_)
    refine lv_aload_n hx hb dX5_paints_15 rfl (lv_at hl 0 rfl) ?_
    refine va_get (D := D) (ci := 5) (v := .ref a1) (C := RX5) (T := TX5) (N := 13) hx hb hts hi_X5 hown hK hP 0 rfl rfl 0 (by decide) hf_7 (fun _ h9 => h9) rfl dX5_paints_16 ?_
    refine lv_iconst (v := 0) hx hb dX5_paints_19 (by decide) ?_
    obtain ⟨x4, ex4, hnx4, hsp⟩ := ldE hsp
    refine r_iald hx hb hK hP 1 0 rfl rfl ex4 hnx4 dX5_paints_20 ?_
    refine lv_icmp_ge (tgt := 27) hx hb dX5_paints_21 (by decide) (fun c5 => ?_) (fun c5 => ?_)
    · have hsp := itT hsp c5
      refine lv_aload_n hx hb dX5_paints_27 rfl (lv_at hl 0 rfl) ?_
      refine lv_bipush (v := 47) hx hb dX5_paints_28 (by decide) ?_
      obtain ⟨r6, hcr6, hsp⟩ := clE hsp
      refine call_v (w1 := [(a0, .inr (5, [.ref a1, w0_1, w0_2, w0_3, w0_4, .ref a6, .ref a7, w0_7, w0_8, w0_9, w0_10, w0_11, w0_12])), (a1, .inl (cI, 99, .inl f1)), (a7, .inl (cI, 3, .inl r6))]) (ws' := [(a0, .inr (5, [.ref a1, w0_1, w0_2, w0_3, w0_4, .ref a6, .ref a7, w0_7, w0_8, w0_9, w0_10, w0_11, w0_12])), (a1, .inl (cI, 99, .inl f1)), (a6, .inl (cI, 4, .inl f6)), (a7, .inl (cI, 3, .inl r6))]) (va_runV (As := [.int 47]) (rest := []) ⟨hx, hb, hml, hown, hts⟩ (k_X5_looksAt l D cI cZ cC cS H.size a0 a1 a7 (w0_1) (w0_2) (w0_3) (w0_4) (.ref a6) (w0_7) (w0_8) (w0_9) (w0_10) (w0_11) (w0_12) f1 f7 47 r6 hcr6) (cwV 1 hts gX5_paints_X5_looksAt rfl rfl rfl nd_X5_looksAt ⟨Nat.le_of_ble_eq_true rfl, Nat.le_of_ble_eq_true rfl⟩) (PB.preV (ci := 5) (q0 := 0) hKU hP hD [0, 1, 3] rfl rfl rfl rfl) rfl rfl hl.1 rfl (lv_room (Nat.le_of_ble_eq_true rfl)) dX5_paints_30 ⟨Nat.zero_le _, Nat.zero_le _⟩) hS hP hD hA [0, 1, 3] rfl rfl (by first | (simp only [wset, List.set_cons_zero, List.set_cons_succ]; done) | rfl) rfl (fun H locs hP hD hS => ?_)
      refine lv_iconst (v := 0) hx hb dX5_paints_33 (by decide) ?_
      refine lv_istore_n (lv' := [(2, .int 0), (0, .ref a0), (1, .int u1)]) hx hb dX5_paints_34 rfl hl (by decide) rfl (fun ls hl => ?_)
      refine ex_rule (D := D) (K := s_X5_paints_X1 u1 f6 r6) (P := fun (t1 : (Nat → Int32)) => [(a0, .inr (5, [.ref a1, w0_1, w0_2, w0_3, w0_4, .ref a6, .ref a7, w0_7, w0_8, w0_9, w0_10, w0_11, w0_12])), (a1, .inl (cI, 99, .inl t1)), (a6, .inl (cI, 4, .inl f6)), (a7, .inl (cI, 3, .inl r6))]) (L := fun (t1 : (Nat → Int32)) => [(0, .ref a0), (1, .int u1)]) (nL := 3) (pcx := 65) (res := res) (A := A) (H0 := s.heap) ?_ (fun hx1 => ?_)
      · intro t1 H locs hsp hP hD hS ls hl
        obtain ⟨y9, rfl⟩ : ∃ z, z = t1 := ⟨_, rfl⟩
        unfold s_X5_paints_X1 at hsp; try dsimp only at hsp
        have hP : va_P D vwCl [(a0, .inr (5, [.ref a1, w0_1, w0_2, w0_3, w0_4, .ref a6, .ref a7, w0_7, w0_8, w0_9, w0_10, w0_11, w0_12])), (a1, .inl (cI, 99, .inl y9)), (a6, .inl (cI, 4, .inl f6)), (a7, .inl (cI, 3, .inl r6))] H := hP
        have hD : va_D A [(a0, .inr (5, [.ref a1, w0_1, w0_2, w0_3, w0_4, .ref a6, .ref a7, w0_7, w0_8, w0_9, w0_10, w0_11, w0_12])), (a1, .inl (cI, 99, .inl y9)), (a6, .inl (cI, 4, .inl f6)), (a7, .inl (cI, 3, .inl r6))] := hD
        have hl : lv_has ls 3 [(0, .ref a0), (1, .int u1)] := hl
        refine lv_aload_n hx hb dX5_paints_65 rfl (lv_at hl 0 rfl) ?_
        refine va_get (D := D) (ci := 5) (v := .ref a1) (C := RX5) (T := TX5) (N := 13) hx hb hts hi_X5 hown hK hP 0 rfl rfl 0 (by decide) hf_7 (fun _ h9 => h9) rfl dX5_paints_66 ?_
        refine lv_iload_n hx hb dX5_paints_69 rfl (lv_at hl 1 rfl) ?_
        obtain ⟨r10, hcr10, hsp⟩ := clE hsp
        refine call_i (w1 := []) (ws' := [(a0, .inr (5, [.ref a1, w0_1, w0_2, w0_3, w0_4, .ref a6, .ref a7, w0_7, w0_8, w0_9, w0_10, w0_11, w0_12])), (a1, .inl (cI, 99, .inl y9)), (a6, .inl (cI, 4, .inl f6)), (a7, .inl (cI, 3, .inl r6))]) (va_runS (As := [.int u1]) (rest := [.ref a1]) ⟨hx, hb, hml, hown, hts⟩ (k_X5_n l D cI cZ cC cS H.size u1 r10 hcr10) (va_cwS 1 hts gX5_paints_X5_n rfl rfl rfl nd_X5_n.2 ⟨Nat.le_of_ble_eq_true rfl, Nat.le_of_ble_eq_true rfl⟩) (PB.preS hKU hP hD [] rfl rfl) rfl rfl hl.1 rfl (lv_room (Nat.le_of_ble_eq_true rfl)) dX5_paints_70 ⟨Nat.zero_le _, Nat.zero_le _⟩) hS hP hD hA [] rfl rfl (by first | (simp only [wset, List.set_cons_zero, List.set_cons_succ]; done) | rfl) rfl (fun H locs hP hD hS => ?_)
        refine lv_iconst (v := 3) hx hb dX5_paints_73 (by decide) ?_
        refine lv_iadd hx hb dX5_paints_74 ?_
        refine lv_iconst (v := 1) hx hb dX5_paints_75 (by decide) ?_
        obtain ⟨y11, ey11, hny11, hsp⟩ := stoE hsp
        refine r_iast (ws' := [(a0, .inr (5, [.ref a1, w0_1, w0_2, w0_3, w0_4, .ref a6, .ref a7, w0_7, w0_8, w0_9, w0_10, w0_11, w0_12])), (a1, .inl (cI, 99, .inl y11)), (a6, .inl (cI, 4, .inl f6)), (a7, .inl (cI, 3, .inl r6))]) hx hb hK hP hD hS 1 0 rfl rfl ey11 hny11 rfl dX5_paints_76 (fun H locs hP hD hS => ?_)
        refine lv_aload_n hx hb dX5_paints_77 rfl (lv_at hl 0 rfl) ?_
        refine va_get (D := D) (ci := 5) (v := .ref a1) (C := RX5) (T := TX5) (N := 13) hx hb hts hi_X5 hown hK hP 0 rfl rfl 0 (by decide) hf_7 (fun _ h9 => h9) rfl dX5_paints_78 ?_
        refine lv_iload_n hx hb dX5_paints_81 rfl (lv_at hl 1 rfl) ?_
        obtain ⟨r12, hcr12, hsp⟩ := clE hsp
        refine call_i (w1 := []) (ws' := [(a0, .inr (5, [.ref a1, w0_1, w0_2, w0_3, w0_4, .ref a6, .ref a7, w0_7, w0_8, w0_9, w0_10, w0_11, w0_12])), (a1, .inl (cI, 99, .inl y11)), (a6, .inl (cI, 4, .inl f6)), (a7, .inl (cI, 3, .inl r6))]) (va_runS (As := [.int u1]) (rest := [.ref a1]) ⟨hx, hb, hml, hown, hts⟩ (k_X5_n l D cI cZ cC cS H.size u1 r12 hcr12) (va_cwS 1 hts gX5_paints_X5_n rfl rfl rfl nd_X5_n.2 ⟨Nat.le_of_ble_eq_true rfl, Nat.le_of_ble_eq_true rfl⟩) (PB.preS hKU hP hD [] rfl rfl) rfl rfl hl.1 rfl (lv_room (Nat.le_of_ble_eq_true rfl)) dX5_paints_82 ⟨Nat.zero_le _, Nat.zero_le _⟩) hS hP hD hA [] rfl rfl (by first | (simp only [wset, List.set_cons_zero, List.set_cons_succ]; done) | rfl) rfl (fun H locs hP hD hS => ?_)
        refine lv_bipush (v := 7) hx hb dX5_paints_85 (by decide) ?_
        refine lv_iadd hx hb dX5_paints_87 ?_
        refine lv_dup2_11 hx hb dX5_paints_88 rfl rfl ?_
        obtain ⟨x13, ex13, hnx13, hsp⟩ := ldE hsp
        refine r_iald hx hb hK hP 1 0 rfl rfl ex13 hnx13 dX5_paints_89 ?_
        refine lv_iconst (v := 1) hx hb dX5_paints_90 (by decide) ?_
        refine lv_iadd hx hb dX5_paints_91 ?_
        obtain ⟨x14, ex14, hsp⟩ := nmE hsp
        refine r_top ex14 ?_
        obtain ⟨y15, ey15, hny15, hsp⟩ := stoE hsp
        refine r_iast (ws' := [(a0, .inr (5, [.ref a1, w0_1, w0_2, w0_3, w0_4, .ref a6, .ref a7, w0_7, w0_8, w0_9, w0_10, w0_11, w0_12])), (a1, .inl (cI, 99, .inl y15)), (a6, .inl (cI, 4, .inl f6)), (a7, .inl (cI, 3, .inl r6))]) hx hb hK hP hD hS 1 0 rfl rfl ey15 hny15 rfl dX5_paints_92 (fun H locs hP hD hS => ?_)
        refine lv_aload_n hx hb dX5_paints_93 rfl (lv_at hl 0 rfl) ?_
        refine lv_bipush (v := 47) hx hb dX5_paints_94 (by decide) ?_
        refine lv_aload_n hx hb dX5_paints_96 rfl (lv_at hl 0 rfl) ?_
        refine va_get (D := D) (ci := 5) (v := .ref a1) (C := RX5) (T := TX5) (N := 13) hx hb hts hi_X5 hown hK hP 0 rfl rfl 0 (by decide) hf_7 (fun _ h9 => h9) rfl dX5_paints_97 ?_
        refine lv_iconst (v := 0) hx hb dX5_paints_100 (by decide) ?_
        obtain ⟨x16, ex16, hnx16, hsp⟩ := ldE hsp
        refine r_iald hx hb hK hP 1 0 rfl rfl ex16 hnx16 dX5_paints_101 ?_
        obtain ⟨r17, hcr17, hsp⟩ := clE hsp
        refine call_v (w1 := [(a0, .inr (5, [.ref a1, w0_1, w0_2, w0_3, w0_4, .ref a6, .ref a7, w0_7, w0_8, w0_9, w0_10, w0_11, w0_12])), (a1, .inl (cI, 99, .inl r17.1)), (a6, .inl (cI, 4, .inl r17.2))]) (ws' := [(a0, .inr (5, [.ref a1, w0_1, w0_2, w0_3, w0_4, .ref a6, .ref a7, w0_7, w0_8, w0_9, w0_10, w0_11, w0_12])), (a1, .inl (cI, 99, .inl r17.1)), (a6, .inl (cI, 4, .inl r17.2)), (a7, .inl (cI, 3, .inl r6))]) (va_runV (As := [.int 47, .int x16]) (rest := []) ⟨hx, hb, hml, hown, hts⟩ (k_X5_takes l D cI cZ cC cS H.size a0 a1 a6 (w0_1) (w0_2) (w0_3) (w0_4) (.ref a7) (w0_7) (w0_8) (w0_9) (w0_10) (w0_11) (w0_12) y15 f6 47 x16 r17 hcr17) (cwV 2 hts gX5_paints_X5_takes rfl rfl rfl nd_X5_takes ⟨Nat.le_of_ble_eq_true rfl, Nat.le_of_ble_eq_true rfl⟩) (PB.preV (ci := 5) (q0 := 0) hKU hP hD [0, 1, 2] rfl rfl rfl rfl) rfl rfl hl.1 rfl (lv_room (Nat.le_of_ble_eq_true rfl)) dX5_paints_102 ⟨Nat.zero_le _, Nat.zero_le _⟩) hS hP hD hA [0, 1, 2] rfl rfl (by first | (simp only [wset, List.set_cons_zero, List.set_cons_succ]; done) | rfl) rfl (fun H locs hP hD hS => ?_)
        refine lv_aload_n hx hb dX5_paints_105 rfl (lv_at hl 0 rfl) ?_
        refine va_get (D := D) (ci := 5) (v := .ref a1) (C := RX5) (T := TX5) (N := 13) hx hb hts hi_X5 hown hK hP 0 rfl rfl 0 (by decide) hf_7 (fun _ h9 => h9) rfl dX5_paints_106 ?_
        refine lv_iconst (v := 3) hx hb dX5_paints_109 (by decide) ?_
        refine lv_dup2_11 hx hb dX5_paints_110 rfl rfl ?_
        obtain ⟨x18, ex18, hnx18, hsp⟩ := ldE hsp
        refine r_iald hx hb hK hP 1 0 rfl rfl ex18 hnx18 dX5_paints_111 ?_
        refine lv_aload_n hx hb dX5_paints_112 rfl (lv_at hl 0 rfl) ?_
        refine va_get (D := D) (ci := 5) (v := .ref a1) (C := RX5) (T := TX5) (N := 13) hx hb hts hi_X5 hown hK hP 0 rfl rfl 0 (by decide) hf_7 (fun _ h9 => h9) rfl dX5_paints_113 ?_
        refine lv_iconst (v := 0) hx hb dX5_paints_116 (by decide) ?_
        obtain ⟨x19, ex19, hnx19, hsp⟩ := ldE hsp
        refine r_iald hx hb hK hP 1 0 rfl rfl ex19 hnx19 dX5_paints_117 ?_
        refine lv_iadd hx hb dX5_paints_118 ?_
        obtain ⟨x20, ex20, hsp⟩ := nmE hsp
        refine r_top ex20 ?_
        obtain ⟨y21, ey21, hny21, hsp⟩ := stoE hsp
        refine r_iast (ws' := [(a0, .inr (5, [.ref a1, w0_1, w0_2, w0_3, w0_4, .ref a6, .ref a7, w0_7, w0_8, w0_9, w0_10, w0_11, w0_12])), (a1, .inl (cI, 99, .inl y21)), (a6, .inl (cI, 4, .inl r17.2)), (a7, .inl (cI, 3, .inl r6))]) hx hb hK hP hD hS 1 0 rfl rfl ey21 hny21 rfl dX5_paints_119 (fun H locs hP hD hS => ?_)
        refine lv_aload_n hx hb dX5_paints_120 rfl (lv_at hl 0 rfl) ?_
        refine va_get (D := D) (ci := 5) (v := .ref a1) (C := RX5) (T := TX5) (N := 13) hx hb hts hi_X5 hown hK hP 0 rfl rfl 0 (by decide) hf_7 (fun _ h9 => h9) rfl dX5_paints_121 ?_
        refine lv_iconst (v := 5) hx hb dX5_paints_124 (by decide) ?_
        refine lv_dup2_11 hx hb dX5_paints_125 rfl rfl ?_
        obtain ⟨x22, ex22, hnx22, hsp⟩ := ldE hsp
        refine r_iald hx hb hK hP 1 0 rfl rfl ex22 hnx22 dX5_paints_126 ?_
        refine lv_iconst (v := 1) hx hb dX5_paints_127 (by decide) ?_
        refine lv_iadd hx hb dX5_paints_128 ?_
        obtain ⟨x23, ex23, hsp⟩ := nmE hsp
        refine r_top ex23 ?_
        obtain ⟨y24, ey24, hny24, hsp⟩ := stoE hsp
        refine r_iast (ws' := [(a0, .inr (5, [.ref a1, w0_1, w0_2, w0_3, w0_4, .ref a6, .ref a7, w0_7, w0_8, w0_9, w0_10, w0_11, w0_12])), (a1, .inl (cI, 99, .inl y24)), (a6, .inl (cI, 4, .inl r17.2)), (a7, .inl (cI, 3, .inl r6))]) hx hb hK hP hD hS 1 0 rfl rfl ey24 hny24 rfl dX5_paints_129 (fun H locs hP hD hS => ?_)
        refine lv_aload_n hx hb dX5_paints_130 rfl (lv_at hl 0 rfl) ?_
        refine lv_iload_n hx hb dX5_paints_131 rfl (lv_at hl 1 rfl) ?_
        obtain ⟨r25, hcr25, hsp⟩ := clE hsp
        refine call_i (w1 := [(a0, .inr (5, [.ref a1, w0_1, w0_2, w0_3, w0_4, .ref a6, .ref a7, w0_7, w0_8, w0_9, w0_10, w0_11, w0_12])), (a1, .inl (cI, 99, .inl y24)), (a7, .inl (cI, 3, .inl r6))]) (ws' := [(a0, .inr (5, [.ref a1, w0_1, w0_2, w0_3, w0_4, .ref a6, .ref a7, w0_7, w0_8, w0_9, w0_10, w0_11, w0_12])), (a1, .inl (cI, 99, .inl y24)), (a6, .inl (cI, 4, .inl r17.2)), (a7, .inl (cI, 3, .inl r6))]) (va_runV (As := [.int u1]) (rest := []) ⟨hx, hb, hml, hown, hts⟩ (k_X5_distance l D cI cZ cC cS H.size a0 a1 a7 (w0_1) (w0_2) (w0_3) (w0_4) (.ref a6) (w0_7) (w0_8) (w0_9) (w0_10) (w0_11) (w0_12) y24 r6 u1 r25 hcr25) (cwV 1 hts gX5_paints_X5_distance rfl rfl rfl nd_X5_distance ⟨Nat.le_of_ble_eq_true rfl, Nat.le_of_ble_eq_true rfl⟩) (PB.preV (ci := 5) (q0 := 0) hKU hP hD [0, 1, 3] rfl rfl rfl rfl) rfl rfl hl.1 rfl (lv_room (Nat.le_of_ble_eq_true rfl)) dX5_paints_132 ⟨Nat.zero_le _, Nat.zero_le _⟩) hS hP hD hA [0, 1, 3] rfl rfl (by first | (simp only [wset, List.set_cons_zero, List.set_cons_succ]; done) | rfl) rfl (fun H locs hP hD hS => ?_)
        have hres := Option.some.inj hsp
        subst hres
        exact W.iret (v := r25) hx hb hr (fun t ht hW => ⟨⟨r25, (), rfl, rfl, P_at ht hP⟩, hS.F ht⟩) hS.2.2 dX5_paints_135
      have hl := lv_sub hl (l' := [(0, .ref a0), (1, .int u1), (2, .int 0)]) [1, 2, 0] rfl
      refine lp_rule (D := D) (F := s_X5_paints_L1 u1 r6 (s_X5_paints_X1 u1 f6 r6)) (P := fun (tv : Int32 × (Nat → Int32)) => [(a0, .inr (5, [.ref a1, w0_1, w0_2, w0_3, w0_4, .ref a6, .ref a7, w0_7, w0_8, w0_9, w0_10, w0_11, w0_12])), (a1, .inl (cI, 99, .inl tv.2)), (a6, .inl (cI, 4, .inl f6)), (a7, .inl (cI, 3, .inl r6))]) (L := fun (tv : Int32 × (Nat → Int32)) => [(0, .ref a0), (1, .int u1), (2, .int tv.1)]) (nL := 3) (res := res) (A := A) (H0 := s.heap) (fun _ => rfl) ?_ 1000 (0, f1) _ _ hsp hP hD hS _ hl
      · intro n1 ih1 tv H locs hsp hP hD hS ls hl
        obtain ⟨x7, y8⟩ := tv
        have hsp : s_X5_paints_B1  u1 r6 (s_X5_paints_X1 u1 f6 r6) (s_X5_paints_L1 u1 r6 (s_X5_paints_X1 u1 f6 r6) n1) x7 y8 = some res := hsp
        unfold s_X5_paints_B1 at hsp
        have hP : va_P D vwCl [(a0, .inr (5, [.ref a1, w0_1, w0_2, w0_3, w0_4, .ref a6, .ref a7, w0_7, w0_8, w0_9, w0_10, w0_11, w0_12])), (a1, .inl (cI, 99, .inl y8)), (a6, .inl (cI, 4, .inl f6)), (a7, .inl (cI, 3, .inl r6))] H := hP
        have hD : va_D A [(a0, .inr (5, [.ref a1, w0_1, w0_2, w0_3, w0_4, .ref a6, .ref a7, w0_7, w0_8, w0_9, w0_10, w0_11, w0_12])), (a1, .inl (cI, 99, .inl y8)), (a6, .inl (cI, 4, .inl f6)), (a7, .inl (cI, 3, .inl r6))] := hD
        have hl : lv_has ls 3 [(0, .ref a0), (1, .int u1), (2, .int x7)] := hl
        refine lv_iload_n hx hb dX5_paints_35 rfl (lv_at hl 2 rfl) ?_
        refine lv_iconst (v := 3) hx hb dX5_paints_36 (by decide) ?_
        refine lv_icmp_ge (tgt := 65) hx hb dX5_paints_37 (by decide) (fun c26 => ?_) (fun c26 => ?_)
        · have hsp := itT hsp c26
          exact hx1 y8 _ _ hsp hP hD hS _ (lv_sub hl [0, 1] rfl)
        have hsp := itF hsp c26
        refine lv_aload_n hx hb dX5_paints_40 rfl (lv_at hl 0 rfl) ?_
        refine va_get (D := D) (ci := 5) (v := .ref a1) (C := RX5) (T := TX5) (N := 13) hx hb hts hi_X5 hown hK hP 0 rfl rfl 0 (by decide) hf_7 (fun _ h9 => h9) rfl dX5_paints_41 ?_
        refine lv_iload_n hx hb dX5_paints_44 rfl (lv_at hl 1 rfl) ?_
        obtain ⟨r27, hcr27, hsp⟩ := clE hsp
        refine call_i (w1 := []) (ws' := [(a0, .inr (5, [.ref a1, w0_1, w0_2, w0_3, w0_4, .ref a6, .ref a7, w0_7, w0_8, w0_9, w0_10, w0_11, w0_12])), (a1, .inl (cI, 99, .inl y8)), (a6, .inl (cI, 4, .inl f6)), (a7, .inl (cI, 3, .inl r6))]) (va_runS (As := [.int u1]) (rest := [.ref a1]) ⟨hx, hb, hml, hown, hts⟩ (k_X5_n l D cI cZ cC cS H.size u1 r27 hcr27) (va_cwS 1 hts gX5_paints_X5_n rfl rfl rfl nd_X5_n.2 ⟨Nat.le_of_ble_eq_true rfl, Nat.le_of_ble_eq_true rfl⟩) (PB.preS hKU hP hD [] rfl rfl) rfl rfl hl.1 rfl (lv_room (Nat.le_of_ble_eq_true rfl)) dX5_paints_45 ⟨Nat.zero_le _, Nat.zero_le _⟩) hS hP hD hA [] rfl rfl (by first | (simp only [wset, List.set_cons_zero, List.set_cons_succ]; done) | rfl) rfl (fun H locs hP hD hS => ?_)
        refine lv_iconst (v := 4) hx hb dX5_paints_48 (by decide) ?_
        refine lv_iadd hx hb dX5_paints_49 ?_
        refine lv_iload_n hx hb dX5_paints_50 rfl (lv_at hl 2 rfl) ?_
        refine lv_iadd hx hb dX5_paints_51 ?_
        refine lv_aload_n hx hb dX5_paints_52 rfl (lv_at hl 0 rfl) ?_
        refine va_get (D := D) (ci := 5) (v := .ref a7) (C := RX5) (T := TX5) (N := 13) hx hb hts hi_X5 hown hK hP 0 rfl rfl 6 (by decide) hf_29 (fun _ h9 => h9) rfl dX5_paints_53 ?_
        refine lv_iload_n hx hb dX5_paints_56 rfl (lv_at hl 2 rfl) ?_
        obtain ⟨x28, ex28, hnx28, hsp⟩ := ldE hsp
        refine r_iald hx hb hK hP 3 0 rfl rfl ex28 hnx28 dX5_paints_57 ?_
        obtain ⟨y29, ey29, hny29, hsp⟩ := stoE hsp
        refine r_iast (ws' := [(a0, .inr (5, [.ref a1, w0_1, w0_2, w0_3, w0_4, .ref a6, .ref a7, w0_7, w0_8, w0_9, w0_10, w0_11, w0_12])), (a1, .inl (cI, 99, .inl y29)), (a6, .inl (cI, 4, .inl f6)), (a7, .inl (cI, 3, .inl r6))]) hx hb hK hP hD hS 1 0 rfl rfl ey29 hny29 rfl dX5_paints_58 (fun H locs hP hD hS => ?_)
        obtain ⟨x30, ex30, hsp⟩ := nmE hsp
        refine lv_iinc (k := 2) (v := x30) (lv' := [(2, .int x30), (0, .ref a0), (1, .int u1)]) hx hb dX5_paints_59 hl rfl (by rw [ex30]; rfl) (by decide) rfl (fun ls hl => ?_)
        refine lv_goto (tgt := 35) hx hb dX5_paints_62 (by decide) ?_
        exact ih1 (x30, y29) _ _ hsp hP hD hS _ (lv_sub hl [1, 2, 0] rfl)
    have hsp := itF hsp c5
    refine lv_bipush (v := (-5)) hx hb dX5_paints_24 (by decide) ?_
    have hres := Option.some.inj hsp
    subst hres
    exact W.iret (v := (-5)) hx hb hr (fun t ht hW => ⟨⟨(-5), (), rfl, rfl, P_at ht hP⟩, hS.F ht⟩) hS.2.2 dX5_paints_26
  have hsp := itT hsp c2
  refine lv_iconst (v := (-1)) hx hb dX5_paints_7 (by decide) ?_
  have hres := Option.some.inj hsp
  subst hres
  exact W.iret (v := (-1)) hx hb hr (fun t ht hW => ⟨⟨(-1), (), rfl, rfl, P_at ht hP⟩, hS.F ht⟩) hS.2.2 dX5_paints_8

theorem nd_X5_rinsesBrush : yX5_rinsesBrush.cls = RX5 ∧ yX5_rinsesBrush.cls ≠ "java/lang/invoke/MethodHandle" ∧ yX5_rinsesBrush.cls ≠ "java/lang/invoke/VarHandle" ∧ (parseMethodDescriptor yX5_rinsesBrush.desc).map (fun d => d.parameters.length) = some 0 := by decide +kernel
set_option maxHeartbeats 8000000 in
set_option maxRecDepth 100000 in
theorem k_X5_rinsesBrush (l : Launch) (D : va_G) (cI cZ cC cS : ClassId) (sz : Nat) (a0 a1 : Nat) (w0_1 : Value) (w0_2 : Value) (w0_3 : Value) (w0_4 : Value) (w0_5 : Value) (w0_6 : Value) (w0_7 : Value) (w0_8 : Value) (w0_9 : Value) (w0_10 : Value) (w0_11 : Value) (w0_12 : Value) (f1 : Nat → Int32) (res : Int32 × (Nat → Int32)) (hsp : s_X5_rinsesBrush f1 = some res) : Met l yX5_rinsesBrush wsX5_rinsesBrush ({ frames := 1, cells := 0, slots := 0, locals := 22 }) (va_Pc [.ref a0] (PB D cI cZ cC cS [(a0, .inr (5, [.ref a1, w0_1, w0_2, w0_3, w0_4, w0_5, w0_6, w0_7, w0_8, w0_9, w0_10, w0_11, w0_12])), (a1, .inl (cI, 99, .inl f1))] sz)) (va_Qi (fun r (_ : Unit) => r = res.1) (fun _ t => va_P D vwCl [(a0, .inr (5, [.ref a1, w0_1, w0_2, w0_3, w0_4, w0_5, w0_6, w0_7, w0_8, w0_9, w0_10, w0_11, w0_12])), (a1, .inl (cI, 99, .inl res.2))] t.heap) (va_A [(a0, .inr (5, [.ref a1, w0_1, w0_2, w0_3, w0_4, w0_5, w0_6, w0_7, w0_8, w0_9, w0_10, w0_11, w0_12])), (a1, .inl (cI, 99, .inl f1))] sz)) 0 0 (va_A [(a0, .inr (5, [.ref a1, w0_1, w0_2, w0_3, w0_4, w0_5, w0_6, w0_7, w0_8, w0_9, w0_10, w0_11, w0_12])), (a1, .inl (cI, 99, .inl f1))] sz) := by
  refine Met.ofW (cc := cX5_rinsesBrush) (maxL := 2) (ret := (some .int)) (by decide) rfl ?_
  intro p e s m args below meth c s₁ B hml hv
  obtain ⟨rfl, hsz, hP, hD0, hKU⟩ := hv
  have hx := B.exec
  have hb := B.bytes
  have hr := B.returns
  have hts := atoms_spec (ws := wsX5_rinsesBrush) B.pre
  have hown : s.vm.findClass RX5 = some m.cls := findClass_of_methodNamed B.named
  have hlocks := B.notSynchronized
  have hK := hKU.1
  have hf_7 := hts (.fieldLink RX5 7 "ThinnedPotsModel" "s" "[I") (by decide +kernel)
  have hi_X5 : ∀ w ∈ u_ws RX5 TX5 13, w ∈ wsX5_rinsesBrush := by decide +kernel
  subst hsz
  have hD := hD0.self (sz := s.heap.size)
  generalize hAe : va_A [(a0, .inr (5, [.ref a1, w0_1, w0_2, w0_3, w0_4, w0_5, w0_6, w0_7, w0_8, w0_9, w0_10, w0_11, w0_12])), (a1, .inl (cI, 99, .inl f1))] s.heap.size = A at hD ⊢
  have hA : ∀ q : Nat, s.heap.size ≤ q → A q := fun q h => by rw [← hAe]; exact Or.inr h
  have hP : va_P D vwCl [(a0, .inr (5, [.ref a1, w0_1, w0_2, w0_3, w0_4, w0_5, w0_6, w0_7, w0_8, w0_9, w0_10, w0_11, w0_12])), (a1, .inl (cI, 99, .inl f1))] s.heap := hP
  generalize hHe : s.heap = H at hP ⊢
  have hS : va_S A s.heap H [] := by rw [hHe]; exact va_S.rf
  have hl := lv_entry ([.ref a0]) (n := 2) (Nat.le_of_ble_eq_true rfl)
  rw [lg_entry_eq]
  generalize (lg_sl ([.ref a0]) ++ List.replicate (2 - (lg_sl ([.ref a0])).length) Slot.unset).toArray = ls at hl ⊢
  have hl : lv_has ls 2 [(0, .ref a0)] := hl
  unfold s_X5_rinsesBrush at hsp
  refine lv_aload_n hx hb dX5_rinsesBrush_0 rfl (lv_at hl 0 rfl) ?_
  refine lv_bipush (v := 47) hx hb dX5_rinsesBrush_1 (by decide) ?_
  obtain ⟨r1, hcr1, hsp⟩ := clE hsp
  refine call_i (w1 := [(a0, .inr (5, [.ref a1, w0_1, w0_2, w0_3, w0_4, w0_5, w0_6, w0_7, w0_8, w0_9, w0_10, w0_11, w0_12])), (a1, .inl (cI, 99, .inl f1))]) (ws' := [(a0, .inr (5, [.ref a1, w0_1, w0_2, w0_3, w0_4, w0_5, w0_6, w0_7, w0_8, w0_9, w0_10, w0_11, w0_12])), (a1, .inl (cI, 99, .inl f1))]) (va_runV (As := [.int 47]) (rest := []) ⟨hx, hb, hml, hown, hts⟩ (k_X5_drops l D cI cZ cC cS H.size a0 a1 (w0_1) (w0_2) (w0_3) (w0_4) (w0_5) (w0_6) (w0_7) (w0_8) (w0_9) (w0_10) (w0_11) (w0_12) f1 47 r1 hcr1) (cwV 1 hts gX5_rinsesBrush_X5_drops rfl rfl rfl nd_X5_drops ⟨Nat.le_of_ble_eq_true rfl, Nat.le_of_ble_eq_true rfl⟩) (PB.preV (ci := 5) (q0 := 0) hKU hP hD [0, 1] rfl rfl rfl rfl) rfl rfl hl.1 rfl (lv_room (Nat.le_of_ble_eq_true rfl)) dX5_rinsesBrush_3 ⟨Nat.zero_le _, Nat.zero_le _⟩) hS hP hD hA [0, 1] rfl rfl (by first | (simp only [wset, List.set_cons_zero, List.set_cons_succ]; done) | rfl) rfl (fun H locs hP hD hS => ?_)
  refine lv_istore_n (lv' := [(1, .int r1), (0, .ref a0)]) hx hb dX5_rinsesBrush_6 rfl hl (by decide) rfl (fun ls hl => ?_)
  refine lv_aload_n hx hb dX5_rinsesBrush_7 rfl (lv_at hl 1 rfl) ?_
  refine lv_bipush (v := 47) hx hb dX5_rinsesBrush_8 (by decide) ?_
  obtain ⟨r2, hcr2, hsp⟩ := clE hsp
  refine call_v (w1 := [(a0, .inr (5, [.ref a1, w0_1, w0_2, w0_3, w0_4, w0_5, w0_6, w0_7, w0_8, w0_9, w0_10, w0_11, w0_12])), (a1, .inl (cI, 99, .inl r2))]) (ws' := [(a0, .inr (5, [.ref a1, w0_1, w0_2, w0_3, w0_4, w0_5, w0_6, w0_7, w0_8, w0_9, w0_10, w0_11, w0_12])), (a1, .inl (cI, 99, .inl r2))]) (va_runV (As := [.int 47]) (rest := []) ⟨hx, hb, hml, hown, hts⟩ (k_X5_clears l D cI cZ cC cS H.size a0 a1 (w0_1) (w0_2) (w0_3) (w0_4) (w0_5) (w0_6) (w0_7) (w0_8) (w0_9) (w0_10) (w0_11) (w0_12) f1 47 r2 hcr2) (cwV 1 hts gX5_rinsesBrush_X5_clears rfl rfl rfl nd_X5_clears ⟨Nat.le_of_ble_eq_true rfl, Nat.le_of_ble_eq_true rfl⟩) (PB.preV (ci := 5) (q0 := 0) hKU hP hD [0, 1] rfl rfl rfl rfl) rfl rfl hl.1 rfl (lv_room (Nat.le_of_ble_eq_true rfl)) dX5_rinsesBrush_10 ⟨Nat.zero_le _, Nat.zero_le _⟩) hS hP hD hA [0, 1] rfl rfl (by first | (simp only [wset, List.set_cons_zero, List.set_cons_succ]; done) | rfl) rfl (fun H locs hP hD hS => ?_)
  refine lv_aload_n hx hb dX5_rinsesBrush_13 rfl (lv_at hl 1 rfl) ?_
  refine va_get (D := D) (ci := 5) (v := .ref a1) (C := RX5) (T := TX5) (N := 13) hx hb hts hi_X5 hown hK hP 0 rfl rfl 0 (by decide) hf_7 (fun _ h9 => h9) rfl dX5_rinsesBrush_14 ?_
  refine lv_iconst (v := 4) hx hb dX5_rinsesBrush_17 (by decide) ?_
  refine lv_dup2_11 hx hb dX5_rinsesBrush_18 rfl rfl ?_
  obtain ⟨x3, ex3, hnx3, hsp⟩ := ldE hsp
  refine r_iald hx hb hK hP 1 0 rfl rfl ex3 hnx3 dX5_rinsesBrush_19 ?_
  refine lv_iload_n hx hb dX5_rinsesBrush_20 rfl (lv_at hl 0 rfl) ?_
  refine lv_iadd hx hb dX5_rinsesBrush_21 ?_
  obtain ⟨x4, ex4, hsp⟩ := nmE hsp
  refine r_top ex4 ?_
  obtain ⟨y5, ey5, hny5, hsp⟩ := stoE hsp
  refine r_iast (ws' := [(a0, .inr (5, [.ref a1, w0_1, w0_2, w0_3, w0_4, w0_5, w0_6, w0_7, w0_8, w0_9, w0_10, w0_11, w0_12])), (a1, .inl (cI, 99, .inl y5))]) hx hb hK hP hD hS 1 0 rfl rfl ey5 hny5 rfl dX5_rinsesBrush_22 (fun H locs hP hD hS => ?_)
  refine lv_aload_n hx hb dX5_rinsesBrush_23 rfl (lv_at hl 1 rfl) ?_
  refine va_get (D := D) (ci := 5) (v := .ref a1) (C := RX5) (T := TX5) (N := 13) hx hb hts hi_X5 hown hK hP 0 rfl rfl 0 (by decide) hf_7 (fun _ h9 => h9) rfl dX5_rinsesBrush_24 ?_
  refine lv_bipush (v := 6) hx hb dX5_rinsesBrush_27 (by decide) ?_
  refine lv_dup2_11 hx hb dX5_rinsesBrush_29 rfl rfl ?_
  obtain ⟨x6, ex6, hnx6, hsp⟩ := ldE hsp
  refine r_iald hx hb hK hP 1 0 rfl rfl ex6 hnx6 dX5_rinsesBrush_30 ?_
  refine lv_iload_n hx hb dX5_rinsesBrush_31 rfl (lv_at hl 0 rfl) ?_
  refine lv_if_le (tgt := 39) hx hb dX5_rinsesBrush_32 (by decide) (fun c7 => ?_) (fun c7 => ?_)
  · have hsp := itT hsp c7
    refine lv_iconst (v := 0) hx hb dX5_rinsesBrush_39 (by decide) ?_
    refine lv_iadd hx hb dX5_rinsesBrush_40 ?_
    obtain ⟨x8, ex8, hsp⟩ := nmE hsp
    refine r_top ex8 ?_
    obtain ⟨y9, ey9, hny9, hsp⟩ := stoE hsp
    refine r_iast (ws' := [(a0, .inr (5, [.ref a1, w0_1, w0_2, w0_3, w0_4, w0_5, w0_6, w0_7, w0_8, w0_9, w0_10, w0_11, w0_12])), (a1, .inl (cI, 99, .inl y9))]) hx hb hK hP hD hS 1 0 rfl rfl ey9 hny9 rfl dX5_rinsesBrush_41 (fun H locs hP hD hS => ?_)
    refine lv_iload_n hx hb dX5_rinsesBrush_42 rfl (lv_at hl 0 rfl) ?_
    have hres := Option.some.inj hsp
    subst hres
    exact W.iret (v := r1) hx hb hr (fun t ht hW => ⟨⟨r1, (), rfl, rfl, P_at ht hP⟩, hS.F ht⟩) hS.2.2 dX5_rinsesBrush_43
  have hsp := itF hsp c7
  refine lv_iconst (v := 1) hx hb dX5_rinsesBrush_35 (by decide) ?_
  refine lv_goto (tgt := 40) hx hb dX5_rinsesBrush_36 (by decide) ?_
  refine lv_iadd hx hb dX5_rinsesBrush_40 ?_
  obtain ⟨x10, ex10, hsp⟩ := nmE hsp
  refine r_top ex10 ?_
  obtain ⟨y11, ey11, hny11, hsp⟩ := stoE hsp
  refine r_iast (ws' := [(a0, .inr (5, [.ref a1, w0_1, w0_2, w0_3, w0_4, w0_5, w0_6, w0_7, w0_8, w0_9, w0_10, w0_11, w0_12])), (a1, .inl (cI, 99, .inl y11))]) hx hb hK hP hD hS 1 0 rfl rfl ey11 hny11 rfl dX5_rinsesBrush_41 (fun H locs hP hD hS => ?_)
  refine lv_iload_n hx hb dX5_rinsesBrush_42 rfl (lv_at hl 0 rfl) ?_
  have hres := Option.some.inj hsp
  subst hres
  exact W.iret (v := r1) hx hb hr (fun t ht hW => ⟨⟨r1, (), rfl, rfl, P_at ht hP⟩, hS.F ht⟩) hS.2.2 dX5_rinsesBrush_43

theorem nd_X5_does : yX5_does.cls = RX5 ∧ yX5_does.cls ≠ "java/lang/invoke/MethodHandle" ∧ yX5_does.cls ≠ "java/lang/invoke/VarHandle" ∧ (parseMethodDescriptor yX5_does.desc).map (fun d => d.parameters.length) = some 1 := by decide +kernel
set_option maxHeartbeats 8000000 in
set_option maxRecDepth 100000 in
theorem k_X5_does (l : Launch) (D : va_G) (cI cZ cC cS : ClassId) (sz : Nat) (a0 a1 a6 a7 a8 : Nat) (w0_1 : Value) (w0_2 : Value) (w0_3 : Value) (w0_4 : Value) (w0_8 : Value) (w0_9 : Value) (w0_10 : Value) (w0_11 : Value) (w0_12 : Value) (f1 : Nat → Int32) (f6 : Nat → Int32) (f7 : Nat → Int32) (f8 : Nat → Int32) (u1 : Int32) (res : Int32 × (Nat → Int32) × (Nat → Int32) × (Nat → Int32)) (hsp : s_X5_does f1 f6 f7 f8 u1 = some res) : Met l yX5_does wsX5_does ({ frames := 4, cells := 0, slots := 0, locals := 99 }) (va_Pc [.ref a0, .int u1] (PB D cI cZ cC cS [(a0, .inr (5, [.ref a1, w0_1, w0_2, w0_3, w0_4, .ref a6, .ref a7, .ref a8, w0_8, w0_9, w0_10, w0_11, w0_12])), (a1, .inl (cI, 99, .inl f1)), (a6, .inl (cI, 4, .inl f6)), (a7, .inl (cI, 3, .inl f7)), (a8, .inl (cI, 192, .inl f8))] sz)) (va_Qi (fun r (_ : Unit) => r = res.1 ∧ (res.1 = 0 ∨ res.1 = 1)) (fun _ t => va_P D vwCl [(a0, .inr (5, [.ref a1, w0_1, w0_2, w0_3, w0_4, .ref a6, .ref a7, .ref a8, w0_8, w0_9, w0_10, w0_11, w0_12])), (a1, .inl (cI, 99, .inl res.2.1)), (a6, .inl (cI, 4, .inl res.2.2.1)), (a7, .inl (cI, 3, .inl res.2.2.2)), (a8, .inl (cI, 192, .inl f8))] t.heap) (va_A [(a0, .inr (5, [.ref a1, w0_1, w0_2, w0_3, w0_4, .ref a6, .ref a7, .ref a8, w0_8, w0_9, w0_10, w0_11, w0_12])), (a1, .inl (cI, 99, .inl f1)), (a6, .inl (cI, 4, .inl f6)), (a7, .inl (cI, 3, .inl f7)), (a8, .inl (cI, 192, .inl f8))] sz)) 0 0 (va_A [(a0, .inr (5, [.ref a1, w0_1, w0_2, w0_3, w0_4, .ref a6, .ref a7, .ref a8, w0_8, w0_9, w0_10, w0_11, w0_12])), (a1, .inl (cI, 99, .inl f1)), (a6, .inl (cI, 4, .inl f6)), (a7, .inl (cI, 3, .inl f7)), (a8, .inl (cI, 192, .inl f8))] sz) := by
  refine Met.ofW (cc := cX5_does) (maxL := 6) (ret := (some .boolean)) (by decide) rfl ?_
  intro p e s m args below meth c s₁ B hml hv
  obtain ⟨rfl, hsz, hP, hD0, hKU⟩ := hv
  have hx := B.exec
  have hb := B.bytes
  have hr := B.returns
  have hts := atoms_spec (ws := wsX5_does) B.pre
  have hown : s.vm.findClass RX5 = some m.cls := findClass_of_methodNamed B.named
  have hlocks := B.notSynchronized
  have hK := hKU.1
  have hf_32 := hts (.fieldLink RX5 32 "ThinnedPotsModel" "read" "[I") (by decide +kernel)
  have hi_X5 : ∀ w ∈ u_ws RX5 TX5 13, w ∈ wsX5_does := by decide +kernel
  subst hsz
  have hD := hD0.self (sz := s.heap.size)
  generalize hAe : va_A [(a0, .inr (5, [.ref a1, w0_1, w0_2, w0_3, w0_4, .ref a6, .ref a7, .ref a8, w0_8, w0_9, w0_10, w0_11, w0_12])), (a1, .inl (cI, 99, .inl f1)), (a6, .inl (cI, 4, .inl f6)), (a7, .inl (cI, 3, .inl f7)), (a8, .inl (cI, 192, .inl f8))] s.heap.size = A at hD ⊢
  have hA : ∀ q : Nat, s.heap.size ≤ q → A q := fun q h => by rw [← hAe]; exact Or.inr h
  have hP : va_P D vwCl [(a0, .inr (5, [.ref a1, w0_1, w0_2, w0_3, w0_4, .ref a6, .ref a7, .ref a8, w0_8, w0_9, w0_10, w0_11, w0_12])), (a1, .inl (cI, 99, .inl f1)), (a6, .inl (cI, 4, .inl f6)), (a7, .inl (cI, 3, .inl f7)), (a8, .inl (cI, 192, .inl f8))] s.heap := hP
  generalize hHe : s.heap = H at hP ⊢
  have hS : va_S A s.heap H [] := by rw [hHe]; exact va_S.rf
  have hl := lv_entry ([.ref a0, .int u1]) (n := 6) (Nat.le_of_ble_eq_true rfl)
  rw [lg_entry_eq]
  generalize (lg_sl ([.ref a0, .int u1]) ++ List.replicate (6 - (lg_sl ([.ref a0, .int u1])).length) Slot.unset).toArray = ls at hl ⊢
  have hl : lv_has ls 6 [(0, .ref a0), (1, .int u1)] := hl
  unfold s_X5_does at hsp
  refine lv_bipush (v := 6) hx hb dX5_does_0 (by decide) ?_
  refine lv_iload_n hx hb dX5_does_2 rfl (lv_at hl 1 rfl) ?_
  refine lv_imul hx hb dX5_does_3 ?_
  obtain ⟨x1, ex1, hsp⟩ := nmE hsp
  refine r_top ex1 ?_
  refine lv_istore_n (lv' := [(2, .int x1), (0, .ref a0), (1, .int u1)]) hx hb dX5_does_4 rfl hl (by decide) rfl (fun ls hl => ?_)
  refine lv_aload_n hx hb dX5_does_5 rfl (lv_at hl 1 rfl) ?_
  refine va_get (D := D) (ci := 5) (v := .ref a8) (C := RX5) (T := TX5) (N := 13) hx hb hts hi_X5 hown hK hP 0 rfl rfl 7 (by decide) hf_32 (fun _ h9 => h9) rfl dX5_does_6 ?_
  refine lv_iload_n hx hb dX5_does_9 rfl (lv_at hl 0 rfl) ?_
  obtain ⟨x2, ex2, hnx2, hsp⟩ := ldE hsp
  refine r_iald hx hb hK hP 4 0 rfl rfl ex2 hnx2 dX5_does_10 ?_
  refine lv_bipush (v := 43) hx hb dX5_does_11 (by decide) ?_
  refine lv_icmp_ne (tgt := 99) hx hb dX5_does_13 (by decide) (fun c3 => ?_) (fun c3 => ?_)
  · have hsp := itF hsp c3
    refine lv_aload_n hx hb dX5_does_99 rfl (lv_at hl 1 rfl) ?_
    refine va_get (D := D) (ci := 5) (v := .ref a8) (C := RX5) (T := TX5) (N := 13) hx hb hts hi_X5 hown hK hP 0 rfl rfl 7 (by decide) hf_32 (fun _ h9 => h9) rfl dX5_does_100 ?_
    refine lv_iload_n hx hb dX5_does_103 rfl (lv_at hl 0 rfl) ?_
    obtain ⟨x4, ex4, hnx4, hsp⟩ := ldE hsp
    refine r_iald hx hb hK hP 4 0 rfl rfl ex4 hnx4 dX5_does_104 ?_
    by_cases c5 : x4 = 33
    · have hsp := itT hsp c5
      refine lv_lookup (off := 43) (tgt := 148) hx hb dX5_does_105 (by decide) (by rw [c5]; decide) (by decide) ?_
      refine lv_aload_n hx hb dX5_does_148 rfl (lv_at hl 1 rfl) ?_
      refine lv_aload_n hx hb dX5_does_149 rfl (lv_at hl 1 rfl) ?_
      refine va_get (D := D) (ci := 5) (v := .ref a8) (C := RX5) (T := TX5) (N := 13) hx hb hts hi_X5 hown hK hP 0 rfl rfl 7 (by decide) hf_32 (fun _ h9 => h9) rfl dX5_does_150 ?_
      refine lv_iload_n hx hb dX5_does_153 rfl (lv_at hl 0 rfl) ?_
      refine lv_iconst (v := 1) hx hb dX5_does_154 (by decide) ?_
      refine lv_iadd hx hb dX5_does_155 ?_
      obtain ⟨x6, ex6, hnx6, hsp⟩ := ldE hsp
      refine r_iald hx hb hK hP 4 0 rfl rfl ex6 hnx6 dX5_does_156 ?_
      obtain ⟨r7, hcr7, hsp⟩ := clE hsp
      refine call_i (w1 := [(a0, .inr (5, [.ref a1, w0_1, w0_2, w0_3, w0_4, .ref a6, .ref a7, .ref a8, w0_8, w0_9, w0_10, w0_11, w0_12])), (a1, .inl (cI, 99, .inl r7.2))]) (ws' := [(a0, .inr (5, [.ref a1, w0_1, w0_2, w0_3, w0_4, .ref a6, .ref a7, .ref a8, w0_8, w0_9, w0_10, w0_11, w0_12])), (a1, .inl (cI, 99, .inl r7.2)), (a6, .inl (cI, 4, .inl f6)), (a7, .inl (cI, 3, .inl f7)), (a8, .inl (cI, 192, .inl f8))]) (va_runV (As := [.int x6]) (rest := []) ⟨hx, hb, hml, hown, hts⟩ (k_X5_thins l D cI cZ cC cS H.size a0 a1 (w0_1) (w0_2) (w0_3) (w0_4) (.ref a6) (.ref a7) (.ref a8) (w0_8) (w0_9) (w0_10) (w0_11) (w0_12) f1 x6 r7 hcr7) (cwV 1 hts gX5_does_X5_thins rfl rfl rfl nd_X5_thins ⟨Nat.le_of_ble_eq_true rfl, Nat.le_of_ble_eq_true rfl⟩) (PB.preV (ci := 5) (q0 := 0) hKU hP hD [0, 1] rfl rfl rfl rfl) rfl rfl hl.1 rfl (lv_room (Nat.le_of_ble_eq_true rfl)) dX5_does_157 ⟨Nat.zero_le _, Nat.zero_le _⟩) hS hP hD hA [0, 1] rfl rfl (by first | (simp only [wset, List.set_cons_zero, List.set_cons_succ]; done) | rfl) rfl (fun H locs hP hD hS => ?_)
      refine lv_if_lt (tgt := 167) hx hb dX5_does_160 (by decide) (fun c8 => ?_) (fun c8 => ?_)
      · have hsp := itT hsp c8
        refine lv_iconst (v := 0) hx hb dX5_does_167 (by decide) ?_
        have hres := Option.some.inj hsp
        subst hres
        exact W.zret (v := 0) hx hb hr (zE (Or.inl rfl)) (fun t ht hW => ⟨⟨0, (), rfl, ⟨rfl, (Or.inl rfl)⟩, P_at ht hP⟩, hS.F ht⟩) hS.2.2 dX5_does_168
      have hsp := itF hsp c8
      refine lv_iconst (v := 1) hx hb dX5_does_163 (by decide) ?_
      refine lv_goto (tgt := 168) hx hb dX5_does_164 (by decide) ?_
      have hres := Option.some.inj hsp
      subst hres
      exact W.zret (v := 1) hx hb hr (zE (Or.inr rfl)) (fun t ht hW => ⟨⟨1, (), rfl, ⟨rfl, (Or.inr rfl)⟩, P_at ht hP⟩, hS.F ht⟩) hS.2.2 dX5_does_168
    have hsp := itF hsp c5
    by_cases c9 : x4 = 62
    · have hsp := itT hsp c9
      refine lv_lookup (off := 64) (tgt := 169) hx hb dX5_does_105 (by decide) (by rw [c9]; decide) (by decide) ?_
      refine lv_aload_n hx hb dX5_does_169 rfl (lv_at hl 1 rfl) ?_
      refine lv_aload_n hx hb dX5_does_170 rfl (lv_at hl 1 rfl) ?_
      refine va_get (D := D) (ci := 5) (v := .ref a8) (C := RX5) (T := TX5) (N := 13) hx hb hts hi_X5 hown hK hP 0 rfl rfl 7 (by decide) hf_32 (fun _ h9 => h9) rfl dX5_does_171 ?_
      refine lv_iload_n hx hb dX5_does_174 rfl (lv_at hl 0 rfl) ?_
      refine lv_iconst (v := 1) hx hb dX5_does_175 (by decide) ?_
      refine lv_iadd hx hb dX5_does_176 ?_
      obtain ⟨x10, ex10, hnx10, hsp⟩ := ldE hsp
      refine r_iald hx hb hK hP 4 0 rfl rfl ex10 hnx10 dX5_does_177 ?_
      refine lv_aload_n hx hb dX5_does_178 rfl (lv_at hl 1 rfl) ?_
      refine va_get (D := D) (ci := 5) (v := .ref a8) (C := RX5) (T := TX5) (N := 13) hx hb hts hi_X5 hown hK hP 0 rfl rfl 7 (by decide) hf_32 (fun _ h9 => h9) rfl dX5_does_179 ?_
      refine lv_iload_n hx hb dX5_does_182 rfl (lv_at hl 0 rfl) ?_
      refine lv_iconst (v := 2) hx hb dX5_does_183 (by decide) ?_
      refine lv_iadd hx hb dX5_does_184 ?_
      obtain ⟨x11, ex11, hnx11, hsp⟩ := ldE hsp
      refine r_iald hx hb hK hP 4 0 rfl rfl ex11 hnx11 dX5_does_185 ?_
      refine lv_aload_n hx hb dX5_does_186 rfl (lv_at hl 1 rfl) ?_
      refine va_get (D := D) (ci := 5) (v := .ref a8) (C := RX5) (T := TX5) (N := 13) hx hb hts hi_X5 hown hK hP 0 rfl rfl 7 (by decide) hf_32 (fun _ h9 => h9) rfl dX5_does_187 ?_
      refine lv_iload_n hx hb dX5_does_190 rfl (lv_at hl 0 rfl) ?_
      refine lv_iconst (v := 3) hx hb dX5_does_191 (by decide) ?_
      refine lv_iadd hx hb dX5_does_192 ?_
      obtain ⟨x12, ex12, hnx12, hsp⟩ := ldE hsp
      refine r_iald hx hb hK hP 4 0 rfl rfl ex12 hnx12 dX5_does_193 ?_
      obtain ⟨r13, hcr13, hsp⟩ := clE hsp
      refine call_i (w1 := [(a0, .inr (5, [.ref a1, w0_1, w0_2, w0_3, w0_4, .ref a6, .ref a7, .ref a8, w0_8, w0_9, w0_10, w0_11, w0_12])), (a1, .inl (cI, 99, .inl r13.2.1)), (a6, .inl (cI, 4, .inl r13.2.2))]) (ws' := [(a0, .inr (5, [.ref a1, w0_1, w0_2, w0_3, w0_4, .ref a6, .ref a7, .ref a8, w0_8, w0_9, w0_10, w0_11, w0_12])), (a1, .inl (cI, 99, .inl r13.2.1)), (a6, .inl (cI, 4, .inl r13.2.2)), (a7, .inl (cI, 3, .inl f7)), (a8, .inl (cI, 192, .inl f8))]) (va_runV (As := [.int x10, .int x11, .int x12]) (rest := []) ⟨hx, hb, hml, hown, hts⟩ (k_X5_pours l D cI cZ cC cS H.size a0 a1 a6 (w0_1) (w0_2) (w0_3) (w0_4) (.ref a7) (.ref a8) (w0_8) (w0_9) (w0_10) (w0_11) (w0_12) f1 f6 x10 x11 x12 r13 hcr13) (cwV 3 hts gX5_does_X5_pours rfl rfl rfl nd_X5_pours ⟨Nat.le_of_ble_eq_true rfl, Nat.le_of_ble_eq_true rfl⟩) (PB.preV (ci := 5) (q0 := 0) hKU hP hD [0, 1, 2] rfl rfl rfl rfl) rfl rfl hl.1 rfl (lv_room (Nat.le_of_ble_eq_true rfl)) dX5_does_194 ⟨Nat.zero_le _, Nat.zero_le _⟩) hS hP hD hA [0, 1, 2] rfl rfl (by first | (simp only [wset, List.set_cons_zero, List.set_cons_succ]; done) | rfl) rfl (fun H locs hP hD hS => ?_)
      refine lv_if_lt (tgt := 204) hx hb dX5_does_197 (by decide) (fun c14 => ?_) (fun c14 => ?_)
      · have hsp := itT hsp c14
        refine lv_iconst (v := 0) hx hb dX5_does_204 (by decide) ?_
        have hres := Option.some.inj hsp
        subst hres
        exact W.zret (v := 0) hx hb hr (zE (Or.inl rfl)) (fun t ht hW => ⟨⟨0, (), rfl, ⟨rfl, (Or.inl rfl)⟩, P_at ht hP⟩, hS.F ht⟩) hS.2.2 dX5_does_205
      have hsp := itF hsp c14
      refine lv_iconst (v := 1) hx hb dX5_does_200 (by decide) ?_
      refine lv_goto (tgt := 205) hx hb dX5_does_201 (by decide) ?_
      have hres := Option.some.inj hsp
      subst hres
      exact W.zret (v := 1) hx hb hr (zE (Or.inr rfl)) (fun t ht hW => ⟨⟨1, (), rfl, ⟨rfl, (Or.inr rfl)⟩, P_at ht hP⟩, hS.F ht⟩) hS.2.2 dX5_does_205
    have hsp := itF hsp c9
    by_cases c15 : x4 = 100
    · have hsp := itT hsp c15
      refine lv_lookup (off := 101) (tgt := 206) hx hb dX5_does_105 (by decide) (by rw [c15]; decide) (by decide) ?_
      refine lv_aload_n hx hb dX5_does_206 rfl (lv_at hl 1 rfl) ?_
      refine lv_aload_n hx hb dX5_does_207 rfl (lv_at hl 1 rfl) ?_
      refine va_get (D := D) (ci := 5) (v := .ref a8) (C := RX5) (T := TX5) (N := 13) hx hb hts hi_X5 hown hK hP 0 rfl rfl 7 (by decide) hf_32 (fun _ h9 => h9) rfl dX5_does_208 ?_
      refine lv_iload_n hx hb dX5_does_211 rfl (lv_at hl 0 rfl) ?_
      refine lv_iconst (v := 1) hx hb dX5_does_212 (by decide) ?_
      refine lv_iadd hx hb dX5_does_213 ?_
      obtain ⟨x16, ex16, hnx16, hsp⟩ := ldE hsp
      refine r_iald hx hb hK hP 4 0 rfl rfl ex16 hnx16 dX5_does_214 ?_
      refine lv_aload_n hx hb dX5_does_215 rfl (lv_at hl 1 rfl) ?_
      refine va_get (D := D) (ci := 5) (v := .ref a8) (C := RX5) (T := TX5) (N := 13) hx hb hts hi_X5 hown hK hP 0 rfl rfl 7 (by decide) hf_32 (fun _ h9 => h9) rfl dX5_does_216 ?_
      refine lv_iload_n hx hb dX5_does_219 rfl (lv_at hl 0 rfl) ?_
      refine lv_iconst (v := 2) hx hb dX5_does_220 (by decide) ?_
      refine lv_iadd hx hb dX5_does_221 ?_
      obtain ⟨x17, ex17, hnx17, hsp⟩ := ldE hsp
      refine r_iald hx hb hK hP 4 0 rfl rfl ex17 hnx17 dX5_does_222 ?_
      obtain ⟨r18, hcr18, hsp⟩ := clE hsp
      refine call_i (w1 := [(a0, .inr (5, [.ref a1, w0_1, w0_2, w0_3, w0_4, .ref a6, .ref a7, .ref a8, w0_8, w0_9, w0_10, w0_11, w0_12])), (a1, .inl (cI, 99, .inl r18.2.1)), (a6, .inl (cI, 4, .inl r18.2.2))]) (ws' := [(a0, .inr (5, [.ref a1, w0_1, w0_2, w0_3, w0_4, .ref a6, .ref a7, .ref a8, w0_8, w0_9, w0_10, w0_11, w0_12])), (a1, .inl (cI, 99, .inl r18.2.1)), (a6, .inl (cI, 4, .inl r18.2.2)), (a7, .inl (cI, 3, .inl f7)), (a8, .inl (cI, 192, .inl f8))]) (va_runV (As := [.int x16, .int x17]) (rest := []) ⟨hx, hb, hml, hown, hts⟩ (k_X5_dips l D cI cZ cC cS H.size a0 a1 a6 (w0_1) (w0_2) (w0_3) (w0_4) (.ref a7) (.ref a8) (w0_8) (w0_9) (w0_10) (w0_11) (w0_12) f1 f6 x16 x17 r18 hcr18) (cwV 2 hts gX5_does_X5_dips rfl rfl rfl nd_X5_dips ⟨Nat.le_of_ble_eq_true rfl, Nat.le_of_ble_eq_true rfl⟩) (PB.preV (ci := 5) (q0 := 0) hKU hP hD [0, 1, 2] rfl rfl rfl rfl) rfl rfl hl.1 rfl (lv_room (Nat.le_of_ble_eq_true rfl)) dX5_does_223 ⟨Nat.zero_le _, Nat.zero_le _⟩) hS hP hD hA [0, 1, 2] rfl rfl (by first | (simp only [wset, List.set_cons_zero, List.set_cons_succ]; done) | rfl) rfl (fun H locs hP hD hS => ?_)
      refine lv_if_lt (tgt := 233) hx hb dX5_does_226 (by decide) (fun c19 => ?_) (fun c19 => ?_)
      · have hsp := itT hsp c19
        refine lv_iconst (v := 0) hx hb dX5_does_233 (by decide) ?_
        have hres := Option.some.inj hsp
        subst hres
        exact W.zret (v := 0) hx hb hr (zE (Or.inl rfl)) (fun t ht hW => ⟨⟨0, (), rfl, ⟨rfl, (Or.inl rfl)⟩, P_at ht hP⟩, hS.F ht⟩) hS.2.2 dX5_does_234
      have hsp := itF hsp c19
      refine lv_iconst (v := 1) hx hb dX5_does_229 (by decide) ?_
      refine lv_goto (tgt := 234) hx hb dX5_does_230 (by decide) ?_
      have hres := Option.some.inj hsp
      subst hres
      exact W.zret (v := 1) hx hb hr (zE (Or.inr rfl)) (fun t ht hW => ⟨⟨1, (), rfl, ⟨rfl, (Or.inr rfl)⟩, P_at ht hP⟩, hS.F ht⟩) hS.2.2 dX5_does_234
    have hsp := itF hsp c15
    by_cases c20 : x4 = 112
    · have hsp := itT hsp c20
      refine lv_lookup (off := 130) (tgt := 235) hx hb dX5_does_105 (by decide) (by rw [c20]; decide) (by decide) ?_
      refine lv_aload_n hx hb dX5_does_235 rfl (lv_at hl 1 rfl) ?_
      refine lv_aload_n hx hb dX5_does_236 rfl (lv_at hl 1 rfl) ?_
      refine va_get (D := D) (ci := 5) (v := .ref a8) (C := RX5) (T := TX5) (N := 13) hx hb hts hi_X5 hown hK hP 0 rfl rfl 7 (by decide) hf_32 (fun _ h9 => h9) rfl dX5_does_237 ?_
      refine lv_iload_n hx hb dX5_does_240 rfl (lv_at hl 0 rfl) ?_
      refine lv_iconst (v := 1) hx hb dX5_does_241 (by decide) ?_
      refine lv_iadd hx hb dX5_does_242 ?_
      obtain ⟨x21, ex21, hnx21, hsp⟩ := ldE hsp
      refine r_iald hx hb hK hP 4 0 rfl rfl ex21 hnx21 dX5_does_243 ?_
      obtain ⟨r22, hcr22, hsp⟩ := clE hsp
      refine call_i (w1 := [(a0, .inr (5, [.ref a1, w0_1, w0_2, w0_3, w0_4, .ref a6, .ref a7, .ref a8, w0_8, w0_9, w0_10, w0_11, w0_12])), (a1, .inl (cI, 99, .inl r22.2.1)), (a6, .inl (cI, 4, .inl r22.2.2.1)), (a7, .inl (cI, 3, .inl r22.2.2.2))]) (ws' := [(a0, .inr (5, [.ref a1, w0_1, w0_2, w0_3, w0_4, .ref a6, .ref a7, .ref a8, w0_8, w0_9, w0_10, w0_11, w0_12])), (a1, .inl (cI, 99, .inl r22.2.1)), (a6, .inl (cI, 4, .inl r22.2.2.1)), (a7, .inl (cI, 3, .inl r22.2.2.2)), (a8, .inl (cI, 192, .inl f8))]) (va_runV (As := [.int x21]) (rest := []) ⟨hx, hb, hml, hown, hts⟩ (k_X5_paints l D cI cZ cC cS H.size a0 a1 a6 a7 (w0_1) (w0_2) (w0_3) (w0_4) (.ref a8) (w0_8) (w0_9) (w0_10) (w0_11) (w0_12) f1 f6 f7 x21 r22 hcr22) (cwV 1 hts gX5_does_X5_paints rfl rfl rfl nd_X5_paints ⟨Nat.le_of_ble_eq_true rfl, Nat.le_of_ble_eq_true rfl⟩) (PB.preV (ci := 5) (q0 := 0) hKU hP hD [0, 1, 2, 3] rfl rfl rfl rfl) rfl rfl hl.1 rfl (lv_room (Nat.le_of_ble_eq_true rfl)) dX5_does_244 ⟨Nat.zero_le _, Nat.zero_le _⟩) hS hP hD hA [0, 1, 2, 3] rfl rfl (by first | (simp only [wset, List.set_cons_zero, List.set_cons_succ]; done) | rfl) rfl (fun H locs hP hD hS => ?_)
      refine lv_if_lt (tgt := 254) hx hb dX5_does_247 (by decide) (fun c23 => ?_) (fun c23 => ?_)
      · have hsp := itT hsp c23
        refine lv_iconst (v := 0) hx hb dX5_does_254 (by decide) ?_
        have hres := Option.some.inj hsp
        subst hres
        exact W.zret (v := 0) hx hb hr (zE (Or.inl rfl)) (fun t ht hW => ⟨⟨0, (), rfl, ⟨rfl, (Or.inl rfl)⟩, P_at ht hP⟩, hS.F ht⟩) hS.2.2 dX5_does_255
      have hsp := itF hsp c23
      refine lv_iconst (v := 1) hx hb dX5_does_250 (by decide) ?_
      refine lv_goto (tgt := 255) hx hb dX5_does_251 (by decide) ?_
      have hres := Option.some.inj hsp
      subst hres
      exact W.zret (v := 1) hx hb hr (zE (Or.inr rfl)) (fun t ht hW => ⟨⟨1, (), rfl, ⟨rfl, (Or.inr rfl)⟩, P_at ht hP⟩, hS.F ht⟩) hS.2.2 dX5_does_255
    have hsp := itF hsp c20
    refine lv_lookup (off := 151) (tgt := 256) hx hb dX5_does_105 (by decide) ((lv_osw c5 (by decide)).trans ((lv_osw c9 (by decide)).trans ((lv_osw c15 (by decide)).trans ((lv_osw c20 (by decide)).trans rfl)))) (by decide) ?_
    refine lv_aload_n hx hb dX5_does_256 rfl (lv_at hl 1 rfl) ?_
    obtain ⟨r24, hcr24, hsp⟩ := clE hsp
    refine call_i (w1 := [(a0, .inr (5, [.ref a1, w0_1, w0_2, w0_3, w0_4, .ref a6, .ref a7, .ref a8, w0_8, w0_9, w0_10, w0_11, w0_12])), (a1, .inl (cI, 99, .inl r24.2))]) (ws' := [(a0, .inr (5, [.ref a1, w0_1, w0_2, w0_3, w0_4, .ref a6, .ref a7, .ref a8, w0_8, w0_9, w0_10, w0_11, w0_12])), (a1, .inl (cI, 99, .inl r24.2)), (a6, .inl (cI, 4, .inl f6)), (a7, .inl (cI, 3, .inl f7)), (a8, .inl (cI, 192, .inl f8))]) (va_runV (As := []) (rest := []) ⟨hx, hb, hml, hown, hts⟩ (k_X5_rinsesBrush l D cI cZ cC cS H.size a0 a1 (w0_1) (w0_2) (w0_3) (w0_4) (.ref a6) (.ref a7) (.ref a8) (w0_8) (w0_9) (w0_10) (w0_11) (w0_12) f1 r24 hcr24) (cwV 0 hts gX5_does_X5_rinsesBrush rfl rfl rfl nd_X5_rinsesBrush ⟨Nat.le_of_ble_eq_true rfl, Nat.le_of_ble_eq_true rfl⟩) (PB.preV (ci := 5) (q0 := 0) hKU hP hD [0, 1] rfl rfl rfl rfl) rfl rfl hl.1 rfl (lv_room (Nat.le_of_ble_eq_true rfl)) dX5_does_257 ⟨Nat.zero_le _, Nat.zero_le _⟩) hS hP hD hA [0, 1] rfl rfl (by first | (simp only [wset, List.set_cons_zero, List.set_cons_succ]; done) | rfl) rfl (fun H locs hP hD hS => ?_)
    refine lv_if_lt (tgt := 267) hx hb dX5_does_260 (by decide) (fun c25 => ?_) (fun c25 => ?_)
    · have hsp := itT hsp c25
      refine lv_iconst (v := 0) hx hb dX5_does_267 (by decide) ?_
      have hres := Option.some.inj hsp
      subst hres
      exact W.zret (v := 0) hx hb hr (zE (Or.inl rfl)) (fun t ht hW => ⟨⟨0, (), rfl, ⟨rfl, (Or.inl rfl)⟩, P_at ht hP⟩, hS.F ht⟩) hS.2.2 dX5_does_268
    have hsp := itF hsp c25
    refine lv_iconst (v := 1) hx hb dX5_does_263 (by decide) ?_
    refine lv_goto (tgt := 268) hx hb dX5_does_264 (by decide) ?_
    have hres := Option.some.inj hsp
    subst hres
    exact W.zret (v := 1) hx hb hr (zE (Or.inr rfl)) (fun t ht hW => ⟨⟨1, (), rfl, ⟨rfl, (Or.inr rfl)⟩, P_at ht hP⟩, hS.F ht⟩) hS.2.2 dX5_does_268
  have hsp := itT hsp c3
  refine lv_iconst (v := 0) hx hb dX5_does_16 (by decide) ?_
  refine lv_istore_n (lv' := [(3, .int 0), (2, .int x1), (0, .ref a0), (1, .int u1)]) hx hb dX5_does_17 rfl hl (by decide) rfl (fun ls hl => ?_)
  refine lv_iconst (v := 0) hx hb dX5_does_18 (by decide) ?_
  refine lv_istore (lv' := [(4, .int 0), (3, .int 0), (2, .int x1), (0, .ref a0), (1, .int u1)]) hx hb dX5_does_19 hl (by decide) rfl (fun ls hl => ?_)
  refine ex_rule (D := D) (K := s_X5_does_X1 f6 f7) (P := fun (t1 : Int32 × (Nat → Int32)) => [(a0, .inr (5, [.ref a1, w0_1, w0_2, w0_3, w0_4, .ref a6, .ref a7, .ref a8, w0_8, w0_9, w0_10, w0_11, w0_12])), (a1, .inl (cI, 99, .inl t1.2)), (a6, .inl (cI, 4, .inl f6)), (a7, .inl (cI, 3, .inl f7)), (a8, .inl (cI, 192, .inl f8))]) (L := fun (t1 : Int32 × (Nat → Int32)) => [(3, .int t1.1)]) (nL := 6) (pcx := 97) (res := res) (A := A) (H0 := s.heap) ?_ (fun hx1 => ?_)
  · intro t1 H locs hsp hP hD hS ls hl
    obtain ⟨x29, y30⟩ := t1
    unfold s_X5_does_X1 at hsp; try dsimp only at hsp
    have hP : va_P D vwCl [(a0, .inr (5, [.ref a1, w0_1, w0_2, w0_3, w0_4, .ref a6, .ref a7, .ref a8, w0_8, w0_9, w0_10, w0_11, w0_12])), (a1, .inl (cI, 99, .inl y30)), (a6, .inl (cI, 4, .inl f6)), (a7, .inl (cI, 3, .inl f7)), (a8, .inl (cI, 192, .inl f8))] H := hP
    have hD : va_D A [(a0, .inr (5, [.ref a1, w0_1, w0_2, w0_3, w0_4, .ref a6, .ref a7, .ref a8, w0_8, w0_9, w0_10, w0_11, w0_12])), (a1, .inl (cI, 99, .inl y30)), (a6, .inl (cI, 4, .inl f6)), (a7, .inl (cI, 3, .inl f7)), (a8, .inl (cI, 192, .inl f8))] := hD
    have hl : lv_has ls 6 [(3, .int x29)] := hl
    refine lv_iload_n hx hb dX5_does_97 rfl (lv_at hl 0 rfl) ?_
    obtain ⟨hz31, hsp⟩ := zckE hsp
    have hres := Option.some.inj hsp
    subst hres
    exact W.zret (v := x29) hx hb hr (zE hz31) (fun t ht hW => ⟨⟨x29, (), rfl, ⟨rfl, hz31⟩, P_at ht hP⟩, hS.F ht⟩) hS.2.2 dX5_does_98
  have hl := lv_sub hl (l' := [(0, .ref a0), (2, .int x1), (3, .int 0), (4, .int 0)]) [3, 2, 1, 0] rfl
  refine lp_rule (D := D) (F := s_X5_does_L1 f8 x1 (s_X5_does_X1 f6 f7)) (P := fun (tv : Int32 × Int32 × (Nat → Int32)) => [(a0, .inr (5, [.ref a1, w0_1, w0_2, w0_3, w0_4, .ref a6, .ref a7, .ref a8, w0_8, w0_9, w0_10, w0_11, w0_12])), (a1, .inl (cI, 99, .inl tv.2.2)), (a6, .inl (cI, 4, .inl f6)), (a7, .inl (cI, 3, .inl f7)), (a8, .inl (cI, 192, .inl f8))]) (L := fun (tv : Int32 × Int32 × (Nat → Int32)) => [(0, .ref a0), (2, .int x1), (3, .int tv.1), (4, .int tv.2.1)]) (nL := 6) (res := res) (A := A) (H0 := s.heap) (fun _ => rfl) ?_ 1000 (0, 0, f1) _ _ hsp hP hD hS _ hl
  · intro n1 ih1 tv H locs hsp hP hD hS ls hl
    obtain ⟨x26, x27, y28⟩ := tv
    have hsp : s_X5_does_B1  f8 x1 (s_X5_does_X1 f6 f7) (s_X5_does_L1 f8 x1 (s_X5_does_X1 f6 f7) n1) x26 x27 y28 = some res := hsp
    unfold s_X5_does_B1 at hsp
    have hP : va_P D vwCl [(a0, .inr (5, [.ref a1, w0_1, w0_2, w0_3, w0_4, .ref a6, .ref a7, .ref a8, w0_8, w0_9, w0_10, w0_11, w0_12])), (a1, .inl (cI, 99, .inl y28)), (a6, .inl (cI, 4, .inl f6)), (a7, .inl (cI, 3, .inl f7)), (a8, .inl (cI, 192, .inl f8))] H := hP
    have hD : va_D A [(a0, .inr (5, [.ref a1, w0_1, w0_2, w0_3, w0_4, .ref a6, .ref a7, .ref a8, w0_8, w0_9, w0_10, w0_11, w0_12])), (a1, .inl (cI, 99, .inl y28)), (a6, .inl (cI, 4, .inl f6)), (a7, .inl (cI, 3, .inl f7)), (a8, .inl (cI, 192, .inl f8))] := hD
    have hl : lv_has ls 6 [(0, .ref a0), (2, .int x1), (3, .int x26), (4, .int x27)] := hl
    refine lv_iload hx hb dX5_does_21 (lv_at hl 3 rfl) ?_
    refine lv_iconst (v := 4) hx hb dX5_does_23 (by decide) ?_
    refine lv_icmp_ge (tgt := 97) hx hb dX5_does_24 (by decide) (fun c32 => ?_) (fun c32 => ?_)
    · have hsp := itT hsp c32
      exact hx1 (x26, y28) _ _ hsp hP hD hS _ (lv_sub hl [2] rfl)
    have hsp := itF hsp c32
    refine lv_aload_n hx hb dX5_does_27 rfl (lv_at hl 0 rfl) ?_
    refine va_get (D := D) (ci := 5) (v := .ref a8) (C := RX5) (T := TX5) (N := 13) hx hb hts hi_X5 hown hK hP 0 rfl rfl 7 (by decide) hf_32 (fun _ h9 => h9) rfl dX5_does_28 ?_
    refine lv_iload_n hx hb dX5_does_31 rfl (lv_at hl 1 rfl) ?_
    refine lv_iconst (v := 2) hx hb dX5_does_32 (by decide) ?_
    refine lv_iadd hx hb dX5_does_33 ?_
    refine lv_iload hx hb dX5_does_34 (lv_at hl 3 rfl) ?_
    refine lv_iadd hx hb dX5_does_36 ?_
    obtain ⟨x33, ex33, hnx33, hsp⟩ := ldE hsp
    refine r_iald hx hb hK hP 4 0 rfl rfl ex33 hnx33 dX5_does_37 ?_
    refine lv_if_le (tgt := 73) hx hb dX5_does_38 (by decide) (fun c34 => ?_) (fun c34 => ?_)
    · have hsp := itT hsp c34
      refine lv_iconst (v := 0) hx hb dX5_does_73 (by decide) ?_
      refine lv_istore (lv' := [(5, .int 0), (0, .ref a0), (2, .int x1), (3, .int x26), (4, .int x27)]) hx hb dX5_does_74 hl (by decide) rfl (fun ls hl => ?_)
      refine lv_iload_n hx hb dX5_does_76 rfl (lv_at hl 3 rfl) ?_
      refine lv_if_ne (tgt := 85) hx hb dX5_does_77 (by decide) (fun c35 => ?_) (fun c35 => ?_)
      · have hsp := itF hsp c35
        refine lv_iconst (v := 1) hx hb dX5_does_85 (by decide) ?_
        refine lv_goto (tgt := 90) hx hb dX5_does_86 (by decide) ?_
        refine lv_istore_n (lv' := [(3, .int 1), (5, .int 0), (0, .ref a0), (2, .int x1), (4, .int x27)]) hx hb dX5_does_90 rfl hl (by decide) rfl (fun ls hl => ?_)
        obtain ⟨x36, ex36, hsp⟩ := nmE hsp
        refine lv_iinc (k := 4) (v := x36) (lv' := [(4, .int x36), (3, .int 1), (5, .int 0), (0, .ref a0), (2, .int x1)]) hx hb dX5_does_91 hl rfl (by rw [ex36]; rfl) (by decide) rfl (fun ls hl => ?_)
        refine lv_goto (tgt := 21) hx hb dX5_does_94 (by decide) ?_
        exact ih1 (1, x36, y28) _ _ hsp hP hD hS _ (lv_sub hl [3, 4, 1, 0] rfl)
      have hsp := itT hsp c35
      refine lv_iload hx hb dX5_does_80 (lv_at hl 0 rfl) ?_
      refine lv_if_eq (tgt := 89) hx hb dX5_does_82 (by decide) (fun _ => ?_) (fun hc => absurd hc (by decide))
      refine lv_iconst (v := 0) hx hb dX5_does_89 (by decide) ?_
      refine lv_istore_n (lv' := [(3, .int 0), (5, .int 0), (0, .ref a0), (2, .int x1), (4, .int x27)]) hx hb dX5_does_90 rfl hl (by decide) rfl (fun ls hl => ?_)
      obtain ⟨x37, ex37, hsp⟩ := nmE hsp
      refine lv_iinc (k := 4) (v := x37) (lv' := [(4, .int x37), (3, .int 0), (5, .int 0), (0, .ref a0), (2, .int x1)]) hx hb dX5_does_91 hl rfl (by rw [ex37]; rfl) (by decide) rfl (fun ls hl => ?_)
      refine lv_goto (tgt := 21) hx hb dX5_does_94 (by decide) ?_
      exact ih1 (0, x37, y28) _ _ hsp hP hD hS _ (lv_sub hl [3, 4, 1, 0] rfl)
    have hsp := itF hsp c34
    refine lv_aload_n hx hb dX5_does_41 rfl (lv_at hl 0 rfl) ?_
    refine lv_aload_n hx hb dX5_does_42 rfl (lv_at hl 0 rfl) ?_
    refine va_get (D := D) (ci := 5) (v := .ref a8) (C := RX5) (T := TX5) (N := 13) hx hb hts hi_X5 hown hK hP 0 rfl rfl 7 (by decide) hf_32 (fun _ h9 => h9) rfl dX5_does_43 ?_
    refine lv_iload_n hx hb dX5_does_46 rfl (lv_at hl 1 rfl) ?_
    refine lv_iconst (v := 1) hx hb dX5_does_47 (by decide) ?_
    refine lv_iadd hx hb dX5_does_48 ?_
    obtain ⟨x38, ex38, hnx38, hsp⟩ := ldE hsp
    refine r_iald hx hb hK hP 4 0 rfl rfl ex38 hnx38 dX5_does_49 ?_
    refine lv_iload hx hb dX5_does_50 (lv_at hl 3 rfl) ?_
    refine lv_aload_n hx hb dX5_does_52 rfl (lv_at hl 0 rfl) ?_
    refine va_get (D := D) (ci := 5) (v := .ref a8) (C := RX5) (T := TX5) (N := 13) hx hb hts hi_X5 hown hK hP 0 rfl rfl 7 (by decide) hf_32 (fun _ h9 => h9) rfl dX5_does_53 ?_
    refine lv_iload_n hx hb dX5_does_56 rfl (lv_at hl 1 rfl) ?_
    refine lv_iconst (v := 2) hx hb dX5_does_57 (by decide) ?_
    refine lv_iadd hx hb dX5_does_58 ?_
    refine lv_iload hx hb dX5_does_59 (lv_at hl 3 rfl) ?_
    refine lv_iadd hx hb dX5_does_61 ?_
    obtain ⟨x39, ex39, hnx39, hsp⟩ := ldE hsp
    refine r_iald hx hb hK hP 4 0 rfl rfl ex39 hnx39 dX5_does_62 ?_
    obtain ⟨r40, hcr40, hsp⟩ := clE hsp
    refine call_i (w1 := [(a0, .inr (5, [.ref a1, w0_1, w0_2, w0_3, w0_4, .ref a6, .ref a7, .ref a8, w0_8, w0_9, w0_10, w0_11, w0_12])), (a1, .inl (cI, 99, .inl r40.2))]) (ws' := [(a0, .inr (5, [.ref a1, w0_1, w0_2, w0_3, w0_4, .ref a6, .ref a7, .ref a8, w0_8, w0_9, w0_10, w0_11, w0_12])), (a1, .inl (cI, 99, .inl r40.2)), (a6, .inl (cI, 4, .inl f6)), (a7, .inl (cI, 3, .inl f7)), (a8, .inl (cI, 192, .inl f8))]) (va_runV (As := [.int x38, .int x27, .int x39]) (rest := []) ⟨hx, hb, hml, hown, hts⟩ (k_X5_fills l D cI cZ cC cS H.size a0 a1 (w0_1) (w0_2) (w0_3) (w0_4) (.ref a6) (.ref a7) (.ref a8) (w0_8) (w0_9) (w0_10) (w0_11) (w0_12) y28 x38 x27 x39 r40 hcr40) (cwV 3 hts gX5_does_X5_fills rfl rfl rfl nd_X5_fills ⟨Nat.le_of_ble_eq_true rfl, Nat.le_of_ble_eq_true rfl⟩) (PB.preV (ci := 5) (q0 := 0) hKU hP hD [0, 1] rfl rfl rfl rfl) rfl rfl hl.1 rfl (lv_room (Nat.le_of_ble_eq_true rfl)) dX5_does_63 ⟨Nat.zero_le _, Nat.zero_le _⟩) hS hP hD hA [0, 1] rfl rfl (by first | (simp only [wset, List.set_cons_zero, List.set_cons_succ]; done) | rfl) rfl (fun H locs hP hD hS => ?_)
    refine lv_if_lt (tgt := 73) hx hb dX5_does_66 (by decide) (fun c41 => ?_) (fun c41 => ?_)
    · have hsp := itT hsp c41
      refine lv_iconst (v := 0) hx hb dX5_does_73 (by decide) ?_
      refine lv_istore (lv' := [(5, .int 0), (0, .ref a0), (2, .int x1), (3, .int x26), (4, .int x27)]) hx hb dX5_does_74 hl (by decide) rfl (fun ls hl => ?_)
      refine lv_iload_n hx hb dX5_does_76 rfl (lv_at hl 3 rfl) ?_
      refine lv_if_ne (tgt := 85) hx hb dX5_does_77 (by decide) (fun c42 => ?_) (fun c42 => ?_)
      · have hsp := itF hsp c42
        refine lv_iconst (v := 1) hx hb dX5_does_85 (by decide) ?_
        refine lv_goto (tgt := 90) hx hb dX5_does_86 (by decide) ?_
        refine lv_istore_n (lv' := [(3, .int 1), (5, .int 0), (0, .ref a0), (2, .int x1), (4, .int x27)]) hx hb dX5_does_90 rfl hl (by decide) rfl (fun ls hl => ?_)
        obtain ⟨x43, ex43, hsp⟩ := nmE hsp
        refine lv_iinc (k := 4) (v := x43) (lv' := [(4, .int x43), (3, .int 1), (5, .int 0), (0, .ref a0), (2, .int x1)]) hx hb dX5_does_91 hl rfl (by rw [ex43]; rfl) (by decide) rfl (fun ls hl => ?_)
        refine lv_goto (tgt := 21) hx hb dX5_does_94 (by decide) ?_
        exact ih1 (1, x43, r40.2) _ _ hsp hP hD hS _ (lv_sub hl [3, 4, 1, 0] rfl)
      have hsp := itT hsp c42
      refine lv_iload hx hb dX5_does_80 (lv_at hl 0 rfl) ?_
      refine lv_if_eq (tgt := 89) hx hb dX5_does_82 (by decide) (fun _ => ?_) (fun hc => absurd hc (by decide))
      refine lv_iconst (v := 0) hx hb dX5_does_89 (by decide) ?_
      refine lv_istore_n (lv' := [(3, .int 0), (5, .int 0), (0, .ref a0), (2, .int x1), (4, .int x27)]) hx hb dX5_does_90 rfl hl (by decide) rfl (fun ls hl => ?_)
      obtain ⟨x44, ex44, hsp⟩ := nmE hsp
      refine lv_iinc (k := 4) (v := x44) (lv' := [(4, .int x44), (3, .int 0), (5, .int 0), (0, .ref a0), (2, .int x1)]) hx hb dX5_does_91 hl rfl (by rw [ex44]; rfl) (by decide) rfl (fun ls hl => ?_)
      refine lv_goto (tgt := 21) hx hb dX5_does_94 (by decide) ?_
      exact ih1 (0, x44, r40.2) _ _ hsp hP hD hS _ (lv_sub hl [3, 4, 1, 0] rfl)
    have hsp := itF hsp c41
    refine lv_iconst (v := 1) hx hb dX5_does_69 (by decide) ?_
    refine lv_goto (tgt := 74) hx hb dX5_does_70 (by decide) ?_
    refine lv_istore (lv' := [(5, .int 1), (0, .ref a0), (2, .int x1), (3, .int x26), (4, .int x27)]) hx hb dX5_does_74 hl (by decide) rfl (fun ls hl => ?_)
    refine lv_iload_n hx hb dX5_does_76 rfl (lv_at hl 3 rfl) ?_
    refine lv_if_ne (tgt := 85) hx hb dX5_does_77 (by decide) (fun c45 => ?_) (fun c45 => ?_)
    · have hsp := itF hsp c45
      refine lv_iconst (v := 1) hx hb dX5_does_85 (by decide) ?_
      refine lv_goto (tgt := 90) hx hb dX5_does_86 (by decide) ?_
      refine lv_istore_n (lv' := [(3, .int 1), (5, .int 1), (0, .ref a0), (2, .int x1), (4, .int x27)]) hx hb dX5_does_90 rfl hl (by decide) rfl (fun ls hl => ?_)
      obtain ⟨x46, ex46, hsp⟩ := nmE hsp
      refine lv_iinc (k := 4) (v := x46) (lv' := [(4, .int x46), (3, .int 1), (5, .int 1), (0, .ref a0), (2, .int x1)]) hx hb dX5_does_91 hl rfl (by rw [ex46]; rfl) (by decide) rfl (fun ls hl => ?_)
      refine lv_goto (tgt := 21) hx hb dX5_does_94 (by decide) ?_
      exact ih1 (1, x46, r40.2) _ _ hsp hP hD hS _ (lv_sub hl [3, 4, 1, 0] rfl)
    have hsp := itT hsp c45
    refine lv_iload hx hb dX5_does_80 (lv_at hl 0 rfl) ?_
    refine lv_if_eq (tgt := 89) hx hb dX5_does_82 (by decide) (fun hc => absurd hc (by decide)) (fun _ => ?_)
    refine lv_iconst (v := 1) hx hb dX5_does_85 (by decide) ?_
    refine lv_goto (tgt := 90) hx hb dX5_does_86 (by decide) ?_
    refine lv_istore_n (lv' := [(3, .int 1), (5, .int 1), (0, .ref a0), (2, .int x1), (4, .int x27)]) hx hb dX5_does_90 rfl hl (by decide) rfl (fun ls hl => ?_)
    obtain ⟨x47, ex47, hsp⟩ := nmE hsp
    refine lv_iinc (k := 4) (v := x47) (lv' := [(4, .int x47), (3, .int 1), (5, .int 1), (0, .ref a0), (2, .int x1)]) hx hb dX5_does_91 hl rfl (by rw [ex47]; rfl) (by decide) rfl (fun ls hl => ?_)
    refine lv_goto (tgt := 21) hx hb dX5_does_94 (by decide) ?_
    exact ih1 (1, x47, r40.2) _ _ hsp hP hD hS _ (lv_sub hl [3, 4, 1, 0] rfl)

theorem nd_X5_empty : yX5_empty.cls = RX5 ∧ yX5_empty.cls ≠ "java/lang/invoke/MethodHandle" ∧ yX5_empty.cls ≠ "java/lang/invoke/VarHandle" ∧ (parseMethodDescriptor yX5_empty.desc).map (fun d => d.parameters.length) = some 1 := by decide +kernel
set_option maxHeartbeats 8000000 in
set_option maxRecDepth 100000 in
theorem k_X5_empty (l : Launch) (D : va_G) (cI cZ cC cS : ClassId) (sz : Nat) (a0 a1 a2 a3 : Nat) (w0_3 : Value) (w0_4 : Value) (w0_5 : Value) (w0_6 : Value) (w0_7 : Value) (w0_8 : Value) (w0_9 : Value) (g0_10 : Int32) (w0_11 : Value) (w0_12 : Value) (f1 : Nat → Int32) (f2 : Nat → Int32) (f3 : Nat → Int32) (u1 : Int32) (res : Int32 × Int32 × (Nat → Int32) × (Nat → Int32) × (Nat → Int32)) (hsp : s_X5_empty g0_10 f1 f2 f3 u1 = some res) : Met l yX5_empty wsX5_empty ({ frames := 2, cells := 0, slots := 0, locals := 42 }) (va_Pc [.ref a0, .int u1] (PB D cI cZ cC cS [(a0, .inr (5, [.ref a1, .ref a2, .ref a3, w0_3, w0_4, w0_5, w0_6, w0_7, w0_8, w0_9, .int g0_10, w0_11, w0_12])), (a1, .inl (cI, 99, .inl f1)), (a2, .inl (cI, 99, .inl f2)), (a3, .inl (cI, 594, .inl f3))] sz)) (va_Qi (fun r (_ : Unit) => r = res.1) (fun _ t => va_P D vwCl [(a0, .inr (5, [.ref a1, .ref a2, .ref a3, w0_3, w0_4, w0_5, w0_6, w0_7, w0_8, w0_9, .int res.2.1, w0_11, w0_12])), (a1, .inl (cI, 99, .inl res.2.2.1)), (a2, .inl (cI, 99, .inl res.2.2.2.1)), (a3, .inl (cI, 594, .inl res.2.2.2.2))] t.heap) (va_A [(a0, .inr (5, [.ref a1, .ref a2, .ref a3, w0_3, w0_4, w0_5, w0_6, w0_7, w0_8, w0_9, .int g0_10, w0_11, w0_12])), (a1, .inl (cI, 99, .inl f1)), (a2, .inl (cI, 99, .inl f2)), (a3, .inl (cI, 594, .inl f3))] sz)) 0 0 (va_A [(a0, .inr (5, [.ref a1, .ref a2, .ref a3, w0_3, w0_4, w0_5, w0_6, w0_7, w0_8, w0_9, .int g0_10, w0_11, w0_12])), (a1, .inl (cI, 99, .inl f1)), (a2, .inl (cI, 99, .inl f2)), (a3, .inl (cI, 594, .inl f3))] sz) := by
  refine Met.ofW (cc := cX5_empty) (maxL := 3) (ret := (some .int)) (by decide) rfl ?_
  intro p e s m args below meth c s₁ B hml hv
  obtain ⟨rfl, hsz, hP, hD0, hKU⟩ := hv
  have hx := B.exec
  have hb := B.bytes
  have hr := B.returns
  have hts := atoms_spec (ws := wsX5_empty) B.pre
  have hown : s.vm.findClass RX5 = some m.cls := findClass_of_methodNamed B.named
  have hlocks := B.notSynchronized
  have hK := hKU.1
  have hf_7 := hts (.fieldLink RX5 7 "ThinnedPotsModel" "s" "[I") (by decide +kernel)
  have hi_X5 : ∀ w ∈ u_ws RX5 TX5 13, w ∈ wsX5_empty := by decide +kernel
  subst hsz
  have hD := hD0.self (sz := s.heap.size)
  generalize hAe : va_A [(a0, .inr (5, [.ref a1, .ref a2, .ref a3, w0_3, w0_4, w0_5, w0_6, w0_7, w0_8, w0_9, .int g0_10, w0_11, w0_12])), (a1, .inl (cI, 99, .inl f1)), (a2, .inl (cI, 99, .inl f2)), (a3, .inl (cI, 594, .inl f3))] s.heap.size = A at hD ⊢
  have hA : ∀ q : Nat, s.heap.size ≤ q → A q := fun q h => by rw [← hAe]; exact Or.inr h
  have hP : va_P D vwCl [(a0, .inr (5, [.ref a1, .ref a2, .ref a3, w0_3, w0_4, w0_5, w0_6, w0_7, w0_8, w0_9, .int g0_10, w0_11, w0_12])), (a1, .inl (cI, 99, .inl f1)), (a2, .inl (cI, 99, .inl f2)), (a3, .inl (cI, 594, .inl f3))] s.heap := hP
  generalize hHe : s.heap = H at hP ⊢
  have hS : va_S A s.heap H [] := by rw [hHe]; exact va_S.rf
  have hl := lv_entry ([.ref a0, .int u1]) (n := 3) (Nat.le_of_ble_eq_true rfl)
  rw [lg_entry_eq]
  generalize (lg_sl ([.ref a0, .int u1]) ++ List.replicate (3 - (lg_sl ([.ref a0, .int u1])).length) Slot.unset).toArray = ls at hl ⊢
  have hl : lv_has ls 3 [(0, .ref a0), (1, .int u1)] := hl
  unfold s_X5_empty at hsp
  refine lv_iload_n hx hb dX5_empty_0 rfl (lv_at hl 1 rfl) ?_
  obtain ⟨r1, hcr1, hsp⟩ := clE hsp
  refine call_z (w1 := []) (ws' := [(a0, .inr (5, [.ref a1, .ref a2, .ref a3, w0_3, w0_4, w0_5, w0_6, w0_7, w0_8, w0_9, .int g0_10, w0_11, w0_12])), (a1, .inl (cI, 99, .inl f1)), (a2, .inl (cI, 99, .inl f2)), (a3, .inl (cI, 594, .inl f3))]) (va_runS (As := [.int u1]) (rest := []) ⟨hx, hb, hml, hown, hts⟩ (k_X5_isPot l D cI cZ cC cS H.size u1 r1 hcr1) (va_cwS 1 hts gX5_empty_X5_isPot rfl rfl rfl nd_X5_isPot.2 ⟨Nat.le_of_ble_eq_true rfl, Nat.le_of_ble_eq_true rfl⟩) (PB.preS hKU hP hD [] rfl rfl) rfl rfl hl.1 rfl (lv_room (Nat.le_of_ble_eq_true rfl)) dX5_empty_1 ⟨Nat.zero_le _, Nat.zero_le _⟩) hS hP hD hA [] rfl rfl (by first | (simp only [wset, List.set_cons_zero, List.set_cons_succ]; done) | rfl) rfl (fun H locs hP hD hS hzr1 => ?_)
  refine lv_if_ne (tgt := 9) hx hb dX5_empty_4 (by decide) (fun c2 => ?_) (fun c2 => ?_)
  · have hsp := itF hsp c2
    refine lv_aload_n hx hb dX5_empty_9 rfl (lv_at hl 0 rfl) ?_
    obtain ⟨r3, hcr3, hsp⟩ := clE hsp
    refine call_v (w1 := [(a0, .inr (5, [.ref a1, .ref a2, .ref a3, w0_3, w0_4, w0_5, w0_6, w0_7, w0_8, w0_9, .int g0_10, w0_11, w0_12])), (a1, .inl (cI, 99, .inl f1)), (a2, .inl (cI, 99, .inl r3))]) (ws' := [(a0, .inr (5, [.ref a1, .ref a2, .ref a3, w0_3, w0_4, w0_5, w0_6, w0_7, w0_8, w0_9, .int g0_10, w0_11, w0_12])), (a1, .inl (cI, 99, .inl f1)), (a2, .inl (cI, 99, .inl r3)), (a3, .inl (cI, 594, .inl f3))]) (va_runV (As := []) (rest := []) ⟨hx, hb, hml, hown, hts⟩ (k_X5_hold l D cI cZ cC cS H.size a0 a1 a2 (.ref a3) (w0_3) (w0_4) (w0_5) (w0_6) (w0_7) (w0_8) (w0_9) (.int g0_10) (w0_11) (w0_12) f1 f2 r3 hcr3) (cwV 0 hts gX5_empty_X5_hold rfl rfl rfl nd_X5_hold ⟨Nat.le_of_ble_eq_true rfl, Nat.le_of_ble_eq_true rfl⟩) (PB.preV (ci := 5) (q0 := 0) hKU hP hD [0, 1, 2] rfl rfl rfl rfl) rfl rfl hl.1 rfl (lv_room (Nat.le_of_ble_eq_true rfl)) dX5_empty_10 ⟨Nat.zero_le _, Nat.zero_le _⟩) hS hP hD hA [0, 1, 2] rfl rfl (by first | (simp only [wset, List.set_cons_zero, List.set_cons_succ]; done) | rfl) rfl (fun H locs hP hD hS => ?_)
    refine lv_aload_n hx hb dX5_empty_13 rfl (lv_at hl 0 rfl) ?_
    refine lv_iload_n hx hb dX5_empty_14 rfl (lv_at hl 1 rfl) ?_
    obtain ⟨r4, hcr4, hsp⟩ := clE hsp
    refine call_i (w1 := []) (ws' := [(a0, .inr (5, [.ref a1, .ref a2, .ref a3, w0_3, w0_4, w0_5, w0_6, w0_7, w0_8, w0_9, .int g0_10, w0_11, w0_12])), (a1, .inl (cI, 99, .inl f1)), (a2, .inl (cI, 99, .inl r3)), (a3, .inl (cI, 594, .inl f3))]) (va_runS (As := [.int u1]) (rest := [.ref a0]) ⟨hx, hb, hml, hown, hts⟩ (k_X5_p l D cI cZ cC cS H.size u1 r4 hcr4) (va_cwS 1 hts gX5_empty_X5_p rfl rfl rfl nd_X5_p.2 ⟨Nat.le_of_ble_eq_true rfl, Nat.le_of_ble_eq_true rfl⟩) (PB.preS hKU hP hD [] rfl rfl) rfl rfl hl.1 rfl (lv_room (Nat.le_of_ble_eq_true rfl)) dX5_empty_15 ⟨Nat.zero_le _, Nat.zero_le _⟩) hS hP hD hA [] rfl rfl (by first | (simp only [wset, List.set_cons_zero, List.set_cons_succ]; done) | rfl) rfl (fun H locs hP hD hS => ?_)
    obtain ⟨r5, hcr5, hsp⟩ := clE hsp
    refine call_i (w1 := [(a0, .inr (5, [.ref a1, .ref a2, .ref a3, w0_3, w0_4, w0_5, w0_6, w0_7, w0_8, w0_9, .int g0_10, w0_11, w0_12])), (a1, .inl (cI, 99, .inl f1))]) (ws' := [(a0, .inr (5, [.ref a1, .ref a2, .ref a3, w0_3, w0_4, w0_5, w0_6, w0_7, w0_8, w0_9, .int g0_10, w0_11, w0_12])), (a1, .inl (cI, 99, .inl f1)), (a2, .inl (cI, 99, .inl r3)), (a3, .inl (cI, 594, .inl f3))]) (va_runV (As := [.int r4]) (rest := []) ⟨hx, hb, hml, hown, hts⟩ (k_X5_drops l D cI cZ cC cS H.size a0 a1 (.ref a2) (.ref a3) (w0_3) (w0_4) (w0_5) (w0_6) (w0_7) (w0_8) (w0_9) (.int g0_10) (w0_11) (w0_12) f1 r4 r5 hcr5) (cwV 1 hts gX5_empty_X5_drops rfl rfl rfl nd_X5_drops ⟨Nat.le_of_ble_eq_true rfl, Nat.le_of_ble_eq_true rfl⟩) (PB.preV (ci := 5) (q0 := 0) hKU hP hD [0, 1] rfl rfl rfl rfl) rfl rfl hl.1 rfl (lv_room (Nat.le_of_ble_eq_true rfl)) dX5_empty_18 ⟨Nat.zero_le _, Nat.zero_le _⟩) hS hP hD hA [0, 1] rfl rfl (by first | (simp only [wset, List.set_cons_zero, List.set_cons_succ]; done) | rfl) rfl (fun H locs hP hD hS => ?_)
    refine lv_istore_n (lv' := [(2, .int r5), (0, .ref a0), (1, .int u1)]) hx hb dX5_empty_21 rfl hl (by decide) rfl (fun ls hl => ?_)
    refine lv_aload_n hx hb dX5_empty_22 rfl (lv_at hl 1 rfl) ?_
    refine lv_iload_n hx hb dX5_empty_23 rfl (lv_at hl 2 rfl) ?_
    obtain ⟨r6, hcr6, hsp⟩ := clE hsp
    refine call_i (w1 := []) (ws' := [(a0, .inr (5, [.ref a1, .ref a2, .ref a3, w0_3, w0_4, w0_5, w0_6, w0_7, w0_8, w0_9, .int g0_10, w0_11, w0_12])), (a1, .inl (cI, 99, .inl f1)), (a2, .inl (cI, 99, .inl r3)), (a3, .inl (cI, 594, .inl f3))]) (va_runS (As := [.int u1]) (rest := [.ref a0]) ⟨hx, hb, hml, hown, hts⟩ (k_X5_p l D cI cZ cC cS H.size u1 r6 hcr6) (va_cwS 1 hts gX5_empty_X5_p rfl rfl rfl nd_X5_p.2 ⟨Nat.le_of_ble_eq_true rfl, Nat.le_of_ble_eq_true rfl⟩) (PB.preS hKU hP hD [] rfl rfl) rfl rfl hl.1 rfl (lv_room (Nat.le_of_ble_eq_true rfl)) dX5_empty_24 ⟨Nat.zero_le _, Nat.zero_le _⟩) hS hP hD hA [] rfl rfl (by first | (simp only [wset, List.set_cons_zero, List.set_cons_succ]; done) | rfl) rfl (fun H locs hP hD hS => ?_)
    obtain ⟨r7, hcr7, hsp⟩ := clE hsp
    refine call_v (w1 := [(a0, .inr (5, [.ref a1, .ref a2, .ref a3, w0_3, w0_4, w0_5, w0_6, w0_7, w0_8, w0_9, .int g0_10, w0_11, w0_12])), (a1, .inl (cI, 99, .inl r7))]) (ws' := [(a0, .inr (5, [.ref a1, .ref a2, .ref a3, w0_3, w0_4, w0_5, w0_6, w0_7, w0_8, w0_9, .int g0_10, w0_11, w0_12])), (a1, .inl (cI, 99, .inl r7)), (a2, .inl (cI, 99, .inl r3)), (a3, .inl (cI, 594, .inl f3))]) (va_runV (As := [.int r6]) (rest := []) ⟨hx, hb, hml, hown, hts⟩ (k_X5_clears l D cI cZ cC cS H.size a0 a1 (.ref a2) (.ref a3) (w0_3) (w0_4) (w0_5) (w0_6) (w0_7) (w0_8) (w0_9) (.int g0_10) (w0_11) (w0_12) f1 r6 r7 hcr7) (cwV 1 hts gX5_empty_X5_clears rfl rfl rfl nd_X5_clears ⟨Nat.le_of_ble_eq_true rfl, Nat.le_of_ble_eq_true rfl⟩) (PB.preV (ci := 5) (q0 := 0) hKU hP hD [0, 1] rfl rfl rfl rfl) rfl rfl hl.1 rfl (lv_room (Nat.le_of_ble_eq_true rfl)) dX5_empty_27 ⟨Nat.zero_le _, Nat.zero_le _⟩) hS hP hD hA [0, 1] rfl rfl (by first | (simp only [wset, List.set_cons_zero, List.set_cons_succ]; done) | rfl) rfl (fun H locs hP hD hS => ?_)
    refine lv_aload_n hx hb dX5_empty_30 rfl (lv_at hl 1 rfl) ?_
    refine va_get (D := D) (ci := 5) (v := .ref a1) (C := RX5) (T := TX5) (N := 13) hx hb hts hi_X5 hown hK hP 0 rfl rfl 0 (by decide) hf_7 (fun _ h9 => h9) rfl dX5_empty_31 ?_
    refine lv_iconst (v := 4) hx hb dX5_empty_34 (by decide) ?_
    refine lv_dup2_11 hx hb dX5_empty_35 rfl rfl ?_
    obtain ⟨x8, ex8, hnx8, hsp⟩ := ldE hsp
    refine r_iald hx hb hK hP 1 0 rfl rfl ex8 hnx8 dX5_empty_36 ?_
    refine lv_iload_n hx hb dX5_empty_37 rfl (lv_at hl 0 rfl) ?_
    refine lv_iadd hx hb dX5_empty_38 ?_
    obtain ⟨x9, ex9, hsp⟩ := nmE hsp
    refine r_top ex9 ?_
    obtain ⟨y10, ey10, hny10, hsp⟩ := stoE hsp
    refine r_iast (ws' := [(a0, .inr (5, [.ref a1, .ref a2, .ref a3, w0_3, w0_4, w0_5, w0_6, w0_7, w0_8, w0_9, .int g0_10, w0_11, w0_12])), (a1, .inl (cI, 99, .inl y10)), (a2, .inl (cI, 99, .inl r3)), (a3, .inl (cI, 594, .inl f3))]) hx hb hK hP hD hS 1 0 rfl rfl ey10 hny10 rfl dX5_empty_39 (fun H locs hP hD hS => ?_)
    refine lv_aload_n hx hb dX5_empty_40 rfl (lv_at hl 1 rfl) ?_
    refine lv_iload_n hx hb dX5_empty_41 rfl (lv_at hl 0 rfl) ?_
    obtain ⟨r11, hcr11, hsp⟩ := clE hsp
    refine call_i (w1 := [(a0, .inr (5, [.ref a1, .ref a2, .ref a3, w0_3, w0_4, w0_5, w0_6, w0_7, w0_8, w0_9, .int r11.2.1, w0_11, w0_12])), (a2, .inl (cI, 99, .inl r3)), (a3, .inl (cI, 594, .inl r11.2.2))]) (ws' := [(a0, .inr (5, [.ref a1, .ref a2, .ref a3, w0_3, w0_4, w0_5, w0_6, w0_7, w0_8, w0_9, .int r11.2.1, w0_11, w0_12])), (a1, .inl (cI, 99, .inl y10)), (a2, .inl (cI, 99, .inl r3)), (a3, .inl (cI, 594, .inl r11.2.2))]) (va_runV (As := [.int r5]) (rest := []) ⟨hx, hb, hml, hown, hts⟩ (k_X5_recorded l D cI cZ cC cS H.size a0 a2 a3 (.ref a1) (w0_3) (w0_4) (w0_5) (w0_6) (w0_7) (w0_8) (w0_9) g0_10 (w0_11) (w0_12) r3 f3 r5 r11 hcr11) (cwV 1 hts gX5_empty_X5_recorded rfl rfl rfl nd_X5_recorded ⟨Nat.le_of_ble_eq_true rfl, Nat.le_of_ble_eq_true rfl⟩) (PB.preV (ci := 5) (q0 := 0) hKU hP hD [0, 2, 3] rfl rfl rfl rfl) rfl rfl hl.1 rfl (lv_room (Nat.le_of_ble_eq_true rfl)) dX5_empty_42 ⟨Nat.zero_le _, Nat.zero_le _⟩) hS hP hD hA [0, 2, 3] rfl rfl (by first | (simp only [wset, List.set_cons_zero, List.set_cons_succ]; done) | rfl) rfl (fun H locs hP hD hS => ?_)
    have hres := Option.some.inj hsp
    subst hres
    exact W.iret (v := r11.1) hx hb hr (fun t ht hW => ⟨⟨r11.1, (), rfl, rfl, P_at ht hP⟩, hS.F ht⟩) hS.2.2 dX5_empty_45
  have hsp := itT hsp c2
  refine lv_iconst (v := (-1)) hx hb dX5_empty_7 (by decide) ?_
  have hres := Option.some.inj hsp
  subst hres
  exact W.iret (v := (-1)) hx hb hr (fun t ht hW => ⟨⟨(-1), (), rfl, rfl, P_at ht hP⟩, hS.F ht⟩) hS.2.2 dX5_empty_8

theorem nd_X5_number : yX5_number.cls = RX5 ∧ yX5_number.cls ≠ "java/lang/invoke/MethodHandle" ∧ yX5_number.cls ≠ "java/lang/invoke/VarHandle" ∧ (parseMethodDescriptor yX5_number.desc).map (fun d => d.parameters.length) = some 1 := by decide +kernel
set_option maxHeartbeats 8000000 in
set_option maxRecDepth 100000 in
theorem k_X5_number (l : Launch) (D : va_G) (cI cZ cC cS : ClassId) (sz : Nat) (a0 a8 a9 : Nat) (w0_0 : Value) (w0_1 : Value) (w0_2 : Value) (w0_3 : Value) (w0_4 : Value) (w0_5 : Value) (w0_6 : Value) (g0_9 : Int32) (w0_10 : Value) (g0_11 : Int32) (g0_12 : Int32) (f8 : Nat → Int32) (f9 : Nat → Int32) (u1 : Int32) (res : Int32 × Int32 × (Nat → Int32)) (hsp : s_X5_number g0_9 g0_11 g0_12 f8 f9 u1 = some res) : Met l yX5_number wsX5_number ({ frames := 2, cells := 0, slots := 0, locals := 46 }) (va_Pc [.ref a0, .int u1] (PB D cI cZ cC cS [(a0, .inr (5, [w0_0, w0_1, w0_2, w0_3, w0_4, w0_5, w0_6, .ref a8, .ref a9, .int g0_9, w0_10, .int g0_11, .int g0_12])), (a8, .inl (cI, 192, .inl f8)), (a9, .inl (cC, 60, .inl f9))] sz)) (va_Qi (fun r (_ : Unit) => r = res.1 ∧ (res.1 = 0 ∨ res.1 = 1)) (fun _ t => va_P D vwCl [(a0, .inr (5, [w0_0, w0_1, w0_2, w0_3, w0_4, w0_5, w0_6, .ref a8, .ref a9, .int g0_9, w0_10, .int g0_11, .int res.2.1])), (a8, .inl (cI, 192, .inl res.2.2)), (a9, .inl (cC, 60, .inl f9))] t.heap) (va_A [(a0, .inr (5, [w0_0, w0_1, w0_2, w0_3, w0_4, w0_5, w0_6, .ref a8, .ref a9, .int g0_9, w0_10, .int g0_11, .int g0_12])), (a8, .inl (cI, 192, .inl f8)), (a9, .inl (cC, 60, .inl f9))] sz)) 0 0 (va_A [(a0, .inr (5, [w0_0, w0_1, w0_2, w0_3, w0_4, w0_5, w0_6, .ref a8, .ref a9, .int g0_9, w0_10, .int g0_11, .int g0_12])), (a8, .inl (cI, 192, .inl f8)), (a9, .inl (cC, 60, .inl f9))] sz) := by
  refine Met.ofW (cc := cX5_number) (maxL := 3) (ret := (some .boolean)) (by decide) rfl ?_
  intro p e s m args below meth c s₁ B hml hv
  obtain ⟨rfl, hsz, hP, hD0, hKU⟩ := hv
  have hx := B.exec
  have hb := B.bytes
  have hr := B.returns
  have hts := atoms_spec (ws := wsX5_number) B.pre
  have hown : s.vm.findClass RX5 = some m.cls := findClass_of_methodNamed B.named
  have hlocks := B.notSynchronized
  have hK := hKU.1
  have hf_32 := hts (.fieldLink RX5 32 "ThinnedPotsModel" "read" "[I") (by decide +kernel)
  have hi_X5 : ∀ w ∈ u_ws RX5 TX5 13, w ∈ wsX5_number := by decide +kernel
  have hf_133 := hts (.fieldLink RX5 133 "ThinnedPotsModel" "works" "I") (by decide +kernel)
  have hf_35 := hts (.fieldLink RX5 35 "ThinnedPotsModel" "pad" "[C") (by decide +kernel)
  have hf_123 := hts (.fieldLink RX5 123 "ThinnedPotsModel" "at" "I") (by decide +kernel)
  subst hsz
  have hD := hD0.self (sz := s.heap.size)
  generalize hAe : va_A [(a0, .inr (5, [w0_0, w0_1, w0_2, w0_3, w0_4, w0_5, w0_6, .ref a8, .ref a9, .int g0_9, w0_10, .int g0_11, .int g0_12])), (a8, .inl (cI, 192, .inl f8)), (a9, .inl (cC, 60, .inl f9))] s.heap.size = A at hD ⊢
  have hA : ∀ q : Nat, s.heap.size ≤ q → A q := fun q h => by rw [← hAe]; exact Or.inr h
  have hP : va_P D vwCl [(a0, .inr (5, [w0_0, w0_1, w0_2, w0_3, w0_4, w0_5, w0_6, .ref a8, .ref a9, .int g0_9, w0_10, .int g0_11, .int g0_12])), (a8, .inl (cI, 192, .inl f8)), (a9, .inl (cC, 60, .inl f9))] s.heap := hP
  generalize hHe : s.heap = H at hP ⊢
  have hS : va_S A s.heap H [] := by rw [hHe]; exact va_S.rf
  have hl := lv_entry ([.ref a0, .int u1]) (n := 3) (Nat.le_of_ble_eq_true rfl)
  rw [lg_entry_eq]
  generalize (lg_sl ([.ref a0, .int u1]) ++ List.replicate (3 - (lg_sl ([.ref a0, .int u1])).length) Slot.unset).toArray = ls at hl ⊢
  have hl : lv_has ls 3 [(0, .ref a0), (1, .int u1)] := hl
  unfold s_X5_number at hsp
  refine lv_aload_n hx hb dX5_number_0 rfl (lv_at hl 0 rfl) ?_
  refine lv_iload_n hx hb dX5_number_1 rfl (lv_at hl 1 rfl) ?_
  refine lv_bipush (v := 49) hx hb dX5_number_2 (by decide) ?_
  refine lv_bipush (v := 57) hx hb dX5_number_4 (by decide) ?_
  obtain ⟨r1, hcr1, hsp⟩ := clE hsp
  refine call_z (w1 := [(a0, .inr (5, [w0_0, w0_1, w0_2, w0_3, w0_4, w0_5, w0_6, .ref a8, .ref a9, .int g0_9, w0_10, .int g0_11, .int r1.2.1])), (a8, .inl (cI, 192, .inl r1.2.2)), (a9, .inl (cC, 60, .inl f9))]) (ws' := [(a0, .inr (5, [w0_0, w0_1, w0_2, w0_3, w0_4, w0_5, w0_6, .ref a8, .ref a9, .int g0_9, w0_10, .int g0_11, .int r1.2.1])), (a8, .inl (cI, 192, .inl r1.2.2)), (a9, .inl (cC, 60, .inl f9))]) (va_runV (As := [.int u1, .int 49, .int 57]) (rest := []) ⟨hx, hb, hml, hown, hts⟩ (k_X5_digit l D cI cZ cC cS H.size a0 a8 a9 (w0_0) (w0_1) (w0_2) (w0_3) (w0_4) (w0_5) (w0_6) g0_9 (w0_10) g0_11 g0_12 f8 f9 u1 49 57 r1 hcr1) (cwV 3 hts gX5_number_X5_digit rfl rfl rfl nd_X5_digit ⟨Nat.le_of_ble_eq_true rfl, Nat.le_of_ble_eq_true rfl⟩) (PB.preV (ci := 5) (q0 := 0) hKU hP hD [0, 1, 2] rfl rfl rfl rfl) rfl rfl hl.1 rfl (lv_room (Nat.le_of_ble_eq_true rfl)) dX5_number_6 ⟨Nat.zero_le _, Nat.zero_le _⟩) hS hP hD hA [0, 1, 2] rfl rfl (by first | (simp only [wset, List.set_cons_zero, List.set_cons_succ]; done) | rfl) rfl (fun H locs hP hD hS hzr1 => ?_)
  refine lv_if_ne (tgt := 14) hx hb dX5_number_9 (by decide) (fun c2 => ?_) (fun c2 => ?_)
  · have hsp := itF hsp c2
    refine lv_aload_n hx hb dX5_number_14 rfl (lv_at hl 0 rfl) ?_
    refine va_get (D := D) (ci := 5) (v := .ref a8) (C := RX5) (T := TX5) (N := 13) hx hb hts hi_X5 hown hK hP 0 rfl rfl 7 (by decide) hf_32 (fun _ h9 => h9) rfl dX5_number_15 ?_
    refine lv_bipush (v := 6) hx hb dX5_number_18 (by decide) ?_
    refine lv_aload_n hx hb dX5_number_20 rfl (lv_at hl 0 rfl) ?_
    refine va_get (D := D) (ci := 5) (v := .int g0_11) (C := RX5) (T := TX5) (N := 13) hx hb hts hi_X5 hown hK hP 0 rfl rfl 11 (by decide) hf_133 (fun _ h9 => h9) rfl dX5_number_21 ?_
    refine lv_imul hx hb dX5_number_24 ?_
    refine lv_iload_n hx hb dX5_number_25 rfl (lv_at hl 1 rfl) ?_
    refine lv_iadd hx hb dX5_number_26 ?_
    obtain ⟨x3, ex3, hnx3, hsp⟩ := ldE hsp
    refine r_iald hx hb hK hP 1 0 rfl rfl ex3 hnx3 dX5_number_27 ?_
    refine lv_istore_n (lv' := [(2, .int x3), (0, .ref a0), (1, .int u1)]) hx hb dX5_number_28 rfl hl (by decide) rfl (fun ls hl => ?_)
    refine lv_aload_n hx hb dX5_number_29 rfl (lv_at hl 1 rfl) ?_
    refine lv_bipush (v := 48) hx hb dX5_number_30 (by decide) ?_
    refine lv_bipush (v := 57) hx hb dX5_number_32 (by decide) ?_
    obtain ⟨r4, hcr4, hsp⟩ := clE hsp
    refine call_z (w1 := [(a0, .inr (5, [w0_0, w0_1, w0_2, w0_3, w0_4, w0_5, w0_6, .ref a8, .ref a9, .int g0_9, w0_10, .int g0_11, .int r1.2.1])), (a9, .inl (cC, 60, .inl f9))]) (ws' := [(a0, .inr (5, [w0_0, w0_1, w0_2, w0_3, w0_4, w0_5, w0_6, .ref a8, .ref a9, .int g0_9, w0_10, .int g0_11, .int r1.2.1])), (a8, .inl (cI, 192, .inl r1.2.2)), (a9, .inl (cC, 60, .inl f9))]) (va_runV (As := [.int 48, .int 57]) (rest := []) ⟨hx, hb, hml, hown, hts⟩ (k_X5_isSign l D cI cZ cC cS H.size a0 a9 (w0_0) (w0_1) (w0_2) (w0_3) (w0_4) (w0_5) (w0_6) (.ref a8) g0_9 (w0_10) (.int g0_11) r1.2.1 f9 48 57 r4 hcr4) (cwV 2 hts gX5_number_X5_isSign rfl rfl rfl nd_X5_isSign ⟨Nat.le_of_ble_eq_true rfl, Nat.le_of_ble_eq_true rfl⟩) (PB.preV (ci := 5) (q0 := 0) hKU hP hD [0, 2] rfl rfl rfl rfl) rfl rfl hl.1 rfl (lv_room (Nat.le_of_ble_eq_true rfl)) dX5_number_34 ⟨Nat.zero_le _, Nat.zero_le _⟩) hS hP hD hA [0, 2] rfl rfl (by first | (simp only [wset, List.set_cons_zero, List.set_cons_succ]; done) | rfl) rfl (fun H locs hP hD hS hzr4 => ?_)
    refine lv_if_eq (tgt := 103) hx hb dX5_number_37 (by decide) (fun c5 => ?_) (fun c5 => ?_)
    · have hsp := itT hsp c5
      refine lv_iconst (v := 1) hx hb dX5_number_103 (by decide) ?_
      have hres := Option.some.inj hsp
      subst hres
      exact W.zret (v := 1) hx hb hr (zE (Or.inr rfl)) (fun t ht hW => ⟨⟨1, (), rfl, ⟨rfl, (Or.inr rfl)⟩, P_at ht hP⟩, hS.F ht⟩) hS.2.2 dX5_number_104
    have hsp := itF hsp c5
    refine lv_bipush (v := 10) hx hb dX5_number_40 (by decide) ?_
    refine lv_iload_n hx hb dX5_number_42 rfl (lv_at hl 0 rfl) ?_
    refine lv_imul hx hb dX5_number_43 ?_
    refine lv_aload_n hx hb dX5_number_44 rfl (lv_at hl 1 rfl) ?_
    refine va_get (D := D) (ci := 5) (v := .ref a9) (C := RX5) (T := TX5) (N := 13) hx hb hts hi_X5 hown hK hP 0 rfl rfl 8 (by decide) hf_35 (fun _ h9 => h9) rfl dX5_number_45 ?_
    refine lv_aload_n hx hb dX5_number_48 rfl (lv_at hl 1 rfl) ?_
    refine va_get (D := D) (ci := 5) (v := .int r1.2.1) (C := RX5) (T := TX5) (N := 13) hx hb hts hi_X5 hown hK hP 0 rfl rfl 12 (by decide) hf_123 (fun _ h9 => h9) rfl dX5_number_49 ?_
    obtain ⟨x6, ex6, hnx6, hsp⟩ := ldE hsp
    refine r_cald hx hb hK hP 2 2 rfl rfl ex6 hnx6 dX5_number_52 ?_
    refine lv_iadd hx hb dX5_number_53 ?_
    refine lv_bipush (v := 48) hx hb dX5_number_54 (by decide) ?_
    refine lv_isub hx hb dX5_number_56 ?_
    refine lv_bipush (v := 81) hx hb dX5_number_57 (by decide) ?_
    refine lv_icmp_gt (tgt := 103) hx hb dX5_number_59 (by decide) (fun c7 => ?_) (fun c7 => ?_)
    · have hsp := itT hsp c7
      refine lv_iconst (v := 1) hx hb dX5_number_103 (by decide) ?_
      have hres := Option.some.inj hsp
      subst hres
      exact W.zret (v := 1) hx hb hr (zE (Or.inr rfl)) (fun t ht hW => ⟨⟨1, (), rfl, ⟨rfl, (Or.inr rfl)⟩, P_at ht hP⟩, hS.F ht⟩) hS.2.2 dX5_number_104
    have hsp := itF hsp c7
    refine lv_aload_n hx hb dX5_number_62 rfl (lv_at hl 1 rfl) ?_
    refine va_get (D := D) (ci := 5) (v := .ref a8) (C := RX5) (T := TX5) (N := 13) hx hb hts hi_X5 hown hK hP 0 rfl rfl 7 (by decide) hf_32 (fun _ h9 => h9) rfl dX5_number_63 ?_
    refine lv_bipush (v := 6) hx hb dX5_number_66 (by decide) ?_
    refine lv_aload_n hx hb dX5_number_68 rfl (lv_at hl 1 rfl) ?_
    refine va_get (D := D) (ci := 5) (v := .int g0_11) (C := RX5) (T := TX5) (N := 13) hx hb hts hi_X5 hown hK hP 0 rfl rfl 11 (by decide) hf_133 (fun _ h9 => h9) rfl dX5_number_69 ?_
    refine lv_imul hx hb dX5_number_72 ?_
    refine lv_iload_n hx hb dX5_number_73 rfl (lv_at hl 2 rfl) ?_
    refine lv_iadd hx hb dX5_number_74 ?_
    refine lv_bipush (v := 10) hx hb dX5_number_75 (by decide) ?_
    refine lv_iload_n hx hb dX5_number_77 rfl (lv_at hl 0 rfl) ?_
    refine lv_imul hx hb dX5_number_78 ?_
    refine lv_aload_n hx hb dX5_number_79 rfl (lv_at hl 1 rfl) ?_
    refine va_get (D := D) (ci := 5) (v := .ref a9) (C := RX5) (T := TX5) (N := 13) hx hb hts hi_X5 hown hK hP 0 rfl rfl 8 (by decide) hf_35 (fun _ h9 => h9) rfl dX5_number_80 ?_
    refine lv_aload_n hx hb dX5_number_83 rfl (lv_at hl 1 rfl) ?_
    refine va_get (D := D) (ci := 5) (v := .int r1.2.1) (C := RX5) (T := TX5) (N := 13) hx hb hts hi_X5 hown hK hP 0 rfl rfl 12 (by decide) hf_123 (fun _ h9 => h9) rfl dX5_number_84 ?_
    obtain ⟨x8, ex8, hnx8, hsp⟩ := ldE hsp
    refine r_cald hx hb hK hP 2 2 rfl rfl ex8 hnx8 dX5_number_87 ?_
    refine lv_iadd hx hb dX5_number_88 ?_
    refine lv_bipush (v := 48) hx hb dX5_number_89 (by decide) ?_
    refine lv_isub hx hb dX5_number_91 ?_
    obtain ⟨x9, ex9, hsp⟩ := nmE hsp
    refine r_top ex9 ?_
    obtain ⟨y10, ey10, hny10, hsp⟩ := stoE hsp
    refine r_iast (ws' := [(a0, .inr (5, [w0_0, w0_1, w0_2, w0_3, w0_4, w0_5, w0_6, .ref a8, .ref a9, .int g0_9, w0_10, .int g0_11, .int r1.2.1])), (a8, .inl (cI, 192, .inl y10)), (a9, .inl (cC, 60, .inl f9))]) hx hb hK hP hD hS 1 0 rfl rfl ey10 hny10 rfl dX5_number_92 (fun H locs hP hD hS => ?_)
    refine lv_aload_n hx hb dX5_number_93 rfl (lv_at hl 1 rfl) ?_
    refine lv_dup hx hb dX5_number_94 rfl ?_
    refine va_get (D := D) (ci := 5) (v := .int r1.2.1) (C := RX5) (T := TX5) (N := 13) hx hb hts hi_X5 hown hK hP 0 rfl rfl 12 (by decide) hf_123 (fun _ h9 => h9) rfl dX5_number_95 ?_
    refine lv_iconst (v := 1) hx hb dX5_number_98 (by decide) ?_
    refine lv_iadd hx hb dX5_number_99 ?_
    obtain ⟨x11, ex11, hsp⟩ := nmE hsp
    refine r_top ex11 ?_
    refine va_put (D := D) (ci := 5) (v := .int x11) (ty := .int) (C := RX5) (T := TX5) (N := 13) hx hb hts hi_X5 tyX5 tyX5_ok nmX5 hown hK hP hD hS 0 rfl rfl 12 (by decide) hf_123 (fun _ h9 => h9) rfl (by decide +kernel) rfl rfl (Nat.le_of_ble_eq_true rfl) dX5_number_100 (fun H locs hP hD hS => ?_)
    have hP : va_P D vwCl [(a0, .inr (5, [w0_0, w0_1, w0_2, w0_3, w0_4, w0_5, w0_6, .ref a8, .ref a9, .int g0_9, w0_10, .int g0_11, .int x11])), (a8, .inl (cI, 192, .inl y10)), (a9, .inl (cC, 60, .inl f9))] H := hP
    have hD : va_D A [(a0, .inr (5, [w0_0, w0_1, w0_2, w0_3, w0_4, w0_5, w0_6, .ref a8, .ref a9, .int g0_9, w0_10, .int g0_11, .int x11])), (a8, .inl (cI, 192, .inl y10)), (a9, .inl (cC, 60, .inl f9))] := hD
    refine lv_iconst (v := 1) hx hb dX5_number_103 (by decide) ?_
    have hres := Option.some.inj hsp
    subst hres
    exact W.zret (v := 1) hx hb hr (zE (Or.inr rfl)) (fun t ht hW => ⟨⟨1, (), rfl, ⟨rfl, (Or.inr rfl)⟩, P_at ht hP⟩, hS.F ht⟩) hS.2.2 dX5_number_104
  have hsp := itT hsp c2
  refine lv_iconst (v := 0) hx hb dX5_number_12 (by decide) ?_
  have hres := Option.some.inj hsp
  subst hres
  exact W.zret (v := 0) hx hb hr (zE (Or.inl rfl)) (fun t ht hW => ⟨⟨0, (), rfl, ⟨rfl, (Or.inl rfl)⟩, P_at ht hP⟩, hS.F ht⟩) hS.2.2 dX5_number_13

theorem nd_X5_kind : yX5_kind.cls = RX5 ∧ yX5_kind.cls ≠ "java/lang/invoke/MethodHandle" ∧ yX5_kind.cls ≠ "java/lang/invoke/VarHandle" ∧ (parseMethodDescriptor yX5_kind.desc).map (fun d => d.parameters.length) = some 1 := by decide +kernel
set_option maxHeartbeats 8000000 in
set_option maxRecDepth 100000 in
theorem k_X5_kind (l : Launch) (D : va_G) (cI cZ cC cS : ClassId) (sz : Nat) (a0 a9 : Nat) (w0_0 : Value) (w0_1 : Value) (w0_2 : Value) (w0_3 : Value) (w0_4 : Value) (w0_5 : Value) (w0_6 : Value) (w0_7 : Value) (g0_9 : Int32) (w0_10 : Value) (w0_11 : Value) (g0_12 : Int32) (f9 : Nat → Int32) (u1 : Int32) (res : Int32 × Int32) (hsp : s_X5_kind g0_9 g0_12 f9 u1 = some res) : Met l yX5_kind wsX5_kind ({ frames := 2, cells := 0, slots := 0, locals := 44 }) (va_Pc [.ref a0, .int u1] (PB D cI cZ cC cS [(a0, .inr (5, [w0_0, w0_1, w0_2, w0_3, w0_4, w0_5, w0_6, w0_7, .ref a9, .int g0_9, w0_10, w0_11, .int g0_12])), (a9, .inl (cC, 60, .inl f9))] sz)) (va_Qi (fun r (_ : Unit) => r = res.1) (fun _ t => va_P D vwCl [(a0, .inr (5, [w0_0, w0_1, w0_2, w0_3, w0_4, w0_5, w0_6, w0_7, .ref a9, .int g0_9, w0_10, w0_11, .int res.2])), (a9, .inl (cC, 60, .inl f9))] t.heap) (va_A [(a0, .inr (5, [w0_0, w0_1, w0_2, w0_3, w0_4, w0_5, w0_6, w0_7, .ref a9, .int g0_9, w0_10, w0_11, .int g0_12])), (a9, .inl (cC, 60, .inl f9))] sz)) 0 0 (va_A [(a0, .inr (5, [w0_0, w0_1, w0_2, w0_3, w0_4, w0_5, w0_6, w0_7, .ref a9, .int g0_9, w0_10, w0_11, .int g0_12])), (a9, .inl (cC, 60, .inl f9))] sz) := by
  refine Met.ofW (cc := cX5_kind) (maxL := 3) (ret := (some .int)) (by decide) rfl ?_
  intro p e s m args below meth c s₁ B hml hv
  obtain ⟨rfl, hsz, hP, hD0, hKU⟩ := hv
  have hx := B.exec
  have hb := B.bytes
  have hr := B.returns
  have hts := atoms_spec (ws := wsX5_kind) B.pre
  have hown : s.vm.findClass RX5 = some m.cls := findClass_of_methodNamed B.named
  have hlocks := B.notSynchronized
  have hK := hKU.1
  have hf_123 := hts (.fieldLink RX5 123 "ThinnedPotsModel" "at" "I") (by decide +kernel)
  have hi_X5 : ∀ w ∈ u_ws RX5 TX5 13, w ∈ wsX5_kind := by decide +kernel
  subst hsz
  have hD := hD0.self (sz := s.heap.size)
  generalize hAe : va_A [(a0, .inr (5, [w0_0, w0_1, w0_2, w0_3, w0_4, w0_5, w0_6, w0_7, .ref a9, .int g0_9, w0_10, w0_11, .int g0_12])), (a9, .inl (cC, 60, .inl f9))] s.heap.size = A at hD ⊢
  have hA : ∀ q : Nat, s.heap.size ≤ q → A q := fun q h => by rw [← hAe]; exact Or.inr h
  have hP : va_P D vwCl [(a0, .inr (5, [w0_0, w0_1, w0_2, w0_3, w0_4, w0_5, w0_6, w0_7, .ref a9, .int g0_9, w0_10, w0_11, .int g0_12])), (a9, .inl (cC, 60, .inl f9))] s.heap := hP
  generalize hHe : s.heap = H at hP ⊢
  have hS : va_S A s.heap H [] := by rw [hHe]; exact va_S.rf
  have hl := lv_entry ([.ref a0, .int u1]) (n := 3) (Nat.le_of_ble_eq_true rfl)
  rw [lg_entry_eq]
  generalize (lg_sl ([.ref a0, .int u1]) ++ List.replicate (3 - (lg_sl ([.ref a0, .int u1])).length) Slot.unset).toArray = ls at hl ⊢
  have hl : lv_has ls 3 [(0, .ref a0), (1, .int u1)] := hl
  unfold s_X5_kind at hsp
  refine lv_aload_n hx hb dX5_kind_0 rfl (lv_at hl 0 rfl) ?_
  refine lv_bipush (v := 114) hx hb dX5_kind_1 (by decide) ?_
  obtain ⟨r1, hcr1, hsp⟩ := clE hsp
  refine call_z (w1 := [(a0, .inr (5, [w0_0, w0_1, w0_2, w0_3, w0_4, w0_5, w0_6, w0_7, .ref a9, .int g0_9, w0_10, w0_11, .int r1.2])), (a9, .inl (cC, 60, .inl f9))]) (ws' := [(a0, .inr (5, [w0_0, w0_1, w0_2, w0_3, w0_4, w0_5, w0_6, w0_7, .ref a9, .int g0_9, w0_10, w0_11, .int r1.2])), (a9, .inl (cC, 60, .inl f9))]) (va_runV (As := [.int 114]) (rest := []) ⟨hx, hb, hml, hown, hts⟩ (k_X5_accepts l D cI cZ cC cS H.size a0 a9 (w0_0) (w0_1) (w0_2) (w0_3) (w0_4) (w0_5) (w0_6) (w0_7) g0_9 (w0_10) (w0_11) g0_12 f9 114 r1 hcr1) (cwV 1 hts gX5_kind_X5_accepts rfl rfl rfl nd_X5_accepts ⟨Nat.le_of_ble_eq_true rfl, Nat.le_of_ble_eq_true rfl⟩) (PB.preV (ci := 5) (q0 := 0) hKU hP hD [0, 1] rfl rfl rfl rfl) rfl rfl hl.1 rfl (lv_room (Nat.le_of_ble_eq_true rfl)) dX5_kind_3 ⟨Nat.zero_le _, Nat.zero_le _⟩) hS hP hD hA [0, 1] rfl rfl (by first | (simp only [wset, List.set_cons_zero, List.set_cons_succ]; done) | rfl) rfl (fun H locs hP hD hS hzr1 => ?_)
  refine lv_if_eq (tgt := 13) hx hb dX5_kind_6 (by decide) (fun c2 => ?_) (fun c2 => ?_)
  · have hsp := itT hsp c2
    refine lv_aload_n hx hb dX5_kind_13 rfl (lv_at hl 0 rfl) ?_
    refine lv_bipush (v := 121) hx hb dX5_kind_14 (by decide) ?_
    obtain ⟨r3, hcr3, hsp⟩ := clE hsp
    refine call_z (w1 := [(a0, .inr (5, [w0_0, w0_1, w0_2, w0_3, w0_4, w0_5, w0_6, w0_7, .ref a9, .int g0_9, w0_10, w0_11, .int r3.2])), (a9, .inl (cC, 60, .inl f9))]) (ws' := [(a0, .inr (5, [w0_0, w0_1, w0_2, w0_3, w0_4, w0_5, w0_6, w0_7, .ref a9, .int g0_9, w0_10, w0_11, .int r3.2])), (a9, .inl (cC, 60, .inl f9))]) (va_runV (As := [.int 121]) (rest := []) ⟨hx, hb, hml, hown, hts⟩ (k_X5_accepts l D cI cZ cC cS H.size a0 a9 (w0_0) (w0_1) (w0_2) (w0_3) (w0_4) (w0_5) (w0_6) (w0_7) g0_9 (w0_10) (w0_11) r1.2 f9 121 r3 hcr3) (cwV 1 hts gX5_kind_X5_accepts rfl rfl rfl nd_X5_accepts ⟨Nat.le_of_ble_eq_true rfl, Nat.le_of_ble_eq_true rfl⟩) (PB.preV (ci := 5) (q0 := 0) hKU hP hD [0, 1] rfl rfl rfl rfl) rfl rfl hl.1 rfl (lv_room (Nat.le_of_ble_eq_true rfl)) dX5_kind_16 ⟨Nat.zero_le _, Nat.zero_le _⟩) hS hP hD hA [0, 1] rfl rfl (by first | (simp only [wset, List.set_cons_zero, List.set_cons_succ]; done) | rfl) rfl (fun H locs hP hD hS hzr3 => ?_)
    refine lv_if_eq (tgt := 26) hx hb dX5_kind_19 (by decide) (fun c4 => ?_) (fun c4 => ?_)
    · have hsp := itT hsp c4
      refine lv_aload_n hx hb dX5_kind_26 rfl (lv_at hl 0 rfl) ?_
      refine lv_bipush (v := 98) hx hb dX5_kind_27 (by decide) ?_
      obtain ⟨r5, hcr5, hsp⟩ := clE hsp
      refine call_z (w1 := [(a0, .inr (5, [w0_0, w0_1, w0_2, w0_3, w0_4, w0_5, w0_6, w0_7, .ref a9, .int g0_9, w0_10, w0_11, .int r5.2])), (a9, .inl (cC, 60, .inl f9))]) (ws' := [(a0, .inr (5, [w0_0, w0_1, w0_2, w0_3, w0_4, w0_5, w0_6, w0_7, .ref a9, .int g0_9, w0_10, w0_11, .int r5.2])), (a9, .inl (cC, 60, .inl f9))]) (va_runV (As := [.int 98]) (rest := []) ⟨hx, hb, hml, hown, hts⟩ (k_X5_accepts l D cI cZ cC cS H.size a0 a9 (w0_0) (w0_1) (w0_2) (w0_3) (w0_4) (w0_5) (w0_6) (w0_7) g0_9 (w0_10) (w0_11) r3.2 f9 98 r5 hcr5) (cwV 1 hts gX5_kind_X5_accepts rfl rfl rfl nd_X5_accepts ⟨Nat.le_of_ble_eq_true rfl, Nat.le_of_ble_eq_true rfl⟩) (PB.preV (ci := 5) (q0 := 0) hKU hP hD [0, 1] rfl rfl rfl rfl) rfl rfl hl.1 rfl (lv_room (Nat.le_of_ble_eq_true rfl)) dX5_kind_29 ⟨Nat.zero_le _, Nat.zero_le _⟩) hS hP hD hA [0, 1] rfl rfl (by first | (simp only [wset, List.set_cons_zero, List.set_cons_succ]; done) | rfl) rfl (fun H locs hP hD hS hzr5 => ?_)
      refine lv_if_eq (tgt := 39) hx hb dX5_kind_32 (by decide) (fun c6 => ?_) (fun c6 => ?_)
      · have hsp := itT hsp c6
        refine lv_aload_n hx hb dX5_kind_39 rfl (lv_at hl 0 rfl) ?_
        refine lv_bipush (v := 116) hx hb dX5_kind_40 (by decide) ?_
        obtain ⟨r7, hcr7, hsp⟩ := clE hsp
        refine call_z (w1 := [(a0, .inr (5, [w0_0, w0_1, w0_2, w0_3, w0_4, w0_5, w0_6, w0_7, .ref a9, .int g0_9, w0_10, w0_11, .int r7.2])), (a9, .inl (cC, 60, .inl f9))]) (ws' := [(a0, .inr (5, [w0_0, w0_1, w0_2, w0_3, w0_4, w0_5, w0_6, w0_7, .ref a9, .int g0_9, w0_10, w0_11, .int r7.2])), (a9, .inl (cC, 60, .inl f9))]) (va_runV (As := [.int 116]) (rest := []) ⟨hx, hb, hml, hown, hts⟩ (k_X5_accepts l D cI cZ cC cS H.size a0 a9 (w0_0) (w0_1) (w0_2) (w0_3) (w0_4) (w0_5) (w0_6) (w0_7) g0_9 (w0_10) (w0_11) r5.2 f9 116 r7 hcr7) (cwV 1 hts gX5_kind_X5_accepts rfl rfl rfl nd_X5_accepts ⟨Nat.le_of_ble_eq_true rfl, Nat.le_of_ble_eq_true rfl⟩) (PB.preV (ci := 5) (q0 := 0) hKU hP hD [0, 1] rfl rfl rfl rfl) rfl rfl hl.1 rfl (lv_room (Nat.le_of_ble_eq_true rfl)) dX5_kind_42 ⟨Nat.zero_le _, Nat.zero_le _⟩) hS hP hD hA [0, 1] rfl rfl (by first | (simp only [wset, List.set_cons_zero, List.set_cons_succ]; done) | rfl) rfl (fun H locs hP hD hS hzr7 => ?_)
        refine lv_if_eq (tgt := 52) hx hb dX5_kind_45 (by decide) (fun c8 => ?_) (fun c8 => ?_)
        · have hsp := itT hsp c8
          refine lv_bipush (v := (-6)) hx hb dX5_kind_52 (by decide) ?_
          refine lv_istore_n (lv' := [(2, .int (-6)), (0, .ref a0), (1, .int u1)]) hx hb dX5_kind_54 rfl hl (by decide) rfl (fun ls hl => ?_)
          refine lv_aload_n hx hb dX5_kind_55 rfl (lv_at hl 1 rfl) ?_
          refine lv_dup hx hb dX5_kind_56 rfl ?_
          refine va_get (D := D) (ci := 5) (v := .int r7.2) (C := RX5) (T := TX5) (N := 13) hx hb hts hi_X5 hown hK hP 0 rfl rfl 12 (by decide) hf_123 (fun _ h9 => h9) rfl dX5_kind_57 ?_
          refine lv_iload_n hx hb dX5_kind_60 rfl (lv_at hl 0 rfl) ?_
          refine lv_bipush (v := (-6)) hx hb dX5_kind_61 (by decide) ?_
          refine lv_icmp_eq (tgt := 75) hx hb dX5_kind_63 (by decide) (fun _ => ?_) (fun hc => absurd hc (by decide))
          refine lv_iconst (v := 0) hx hb dX5_kind_75 (by decide) ?_
          refine lv_isub hx hb dX5_kind_76 ?_
          obtain ⟨x9, ex9, hsp⟩ := nmE hsp
          refine r_top ex9 ?_
          refine va_put (D := D) (ci := 5) (v := .int x9) (ty := .int) (C := RX5) (T := TX5) (N := 13) hx hb hts hi_X5 tyX5 tyX5_ok nmX5 hown hK hP hD hS 0 rfl rfl 12 (by decide) hf_123 (fun _ h9 => h9) rfl (by decide +kernel) rfl rfl (Nat.le_of_ble_eq_true rfl) dX5_kind_77 (fun H locs hP hD hS => ?_)
          have hP : va_P D vwCl [(a0, .inr (5, [w0_0, w0_1, w0_2, w0_3, w0_4, w0_5, w0_6, w0_7, .ref a9, .int g0_9, w0_10, w0_11, .int x9])), (a9, .inl (cC, 60, .inl f9))] H := hP
          have hD : va_D A [(a0, .inr (5, [w0_0, w0_1, w0_2, w0_3, w0_4, w0_5, w0_6, w0_7, .ref a9, .int g0_9, w0_10, w0_11, .int x9])), (a9, .inl (cC, 60, .inl f9))] := hD
          refine lv_iload_n hx hb dX5_kind_80 rfl (lv_at hl 0 rfl) ?_
          refine lv_iload_n hx hb dX5_kind_81 rfl (lv_at hl 2 rfl) ?_
          refine lv_icmp_gt (tgt := 90) hx hb dX5_kind_82 (by decide) (fun c10 => ?_) (fun c10 => ?_)
          · have hsp := itT hsp c10
            refine lv_iload_n hx hb dX5_kind_90 rfl (lv_at hl 0 rfl) ?_
            have hres := Option.some.inj hsp
            subst hres
            exact W.iret (v := (-6)) hx hb hr (fun t ht hW => ⟨⟨(-6), (), rfl, rfl, P_at ht hP⟩, hS.F ht⟩) hS.2.2 dX5_kind_91
          have hsp := itF hsp c10
          refine lv_bipush (v := (-6)) hx hb dX5_kind_85 (by decide) ?_
          refine lv_goto (tgt := 91) hx hb dX5_kind_87 (by decide) ?_
          have hres := Option.some.inj hsp
          subst hres
          exact W.iret (v := (-6)) hx hb hr (fun t ht hW => ⟨⟨(-6), (), rfl, rfl, P_at ht hP⟩, hS.F ht⟩) hS.2.2 dX5_kind_91
        have hsp := itF hsp c8
        refine lv_iconst (v := 3) hx hb dX5_kind_48 (by decide) ?_
        refine lv_goto (tgt := 54) hx hb dX5_kind_49 (by decide) ?_
        refine lv_istore_n (lv' := [(2, .int 3), (0, .ref a0), (1, .int u1)]) hx hb dX5_kind_54 rfl hl (by decide) rfl (fun ls hl => ?_)
        refine lv_aload_n hx hb dX5_kind_55 rfl (lv_at hl 1 rfl) ?_
        refine lv_dup hx hb dX5_kind_56 rfl ?_
        refine va_get (D := D) (ci := 5) (v := .int r7.2) (C := RX5) (T := TX5) (N := 13) hx hb hts hi_X5 hown hK hP 0 rfl rfl 12 (by decide) hf_123 (fun _ h9 => h9) rfl dX5_kind_57 ?_
        refine lv_iload_n hx hb dX5_kind_60 rfl (lv_at hl 0 rfl) ?_
        refine lv_bipush (v := (-6)) hx hb dX5_kind_61 (by decide) ?_
        refine lv_icmp_eq (tgt := 75) hx hb dX5_kind_63 (by decide) (fun hc => absurd hc (by decide)) (fun _ => ?_)
        refine lv_iload_n hx hb dX5_kind_66 rfl (lv_at hl 0 rfl) ?_
        refine lv_iload_n hx hb dX5_kind_67 rfl (lv_at hl 2 rfl) ?_
        refine lv_icmp_gt (tgt := 75) hx hb dX5_kind_68 (by decide) (fun c11 => ?_) (fun c11 => ?_)
        · have hsp := itT hsp c11
          refine lv_iconst (v := 0) hx hb dX5_kind_75 (by decide) ?_
          refine lv_isub hx hb dX5_kind_76 ?_
          obtain ⟨x12, ex12, hsp⟩ := nmE hsp
          refine r_top ex12 ?_
          refine va_put (D := D) (ci := 5) (v := .int x12) (ty := .int) (C := RX5) (T := TX5) (N := 13) hx hb hts hi_X5 tyX5 tyX5_ok nmX5 hown hK hP hD hS 0 rfl rfl 12 (by decide) hf_123 (fun _ h9 => h9) rfl (by decide +kernel) rfl rfl (Nat.le_of_ble_eq_true rfl) dX5_kind_77 (fun H locs hP hD hS => ?_)
          have hP : va_P D vwCl [(a0, .inr (5, [w0_0, w0_1, w0_2, w0_3, w0_4, w0_5, w0_6, w0_7, .ref a9, .int g0_9, w0_10, w0_11, .int x12])), (a9, .inl (cC, 60, .inl f9))] H := hP
          have hD : va_D A [(a0, .inr (5, [w0_0, w0_1, w0_2, w0_3, w0_4, w0_5, w0_6, w0_7, .ref a9, .int g0_9, w0_10, w0_11, .int x12])), (a9, .inl (cC, 60, .inl f9))] := hD
          refine lv_iload_n hx hb dX5_kind_80 rfl (lv_at hl 0 rfl) ?_
          refine lv_iload_n hx hb dX5_kind_81 rfl (lv_at hl 2 rfl) ?_
          refine lv_icmp_gt (tgt := 90) hx hb dX5_kind_82 (by decide) (fun c13 => ?_) (fun c13 => ?_)
          · have hsp := itT hsp c13
            refine lv_iload_n hx hb dX5_kind_90 rfl (lv_at hl 0 rfl) ?_
            have hres := Option.some.inj hsp
            subst hres
            exact W.iret (v := 3) hx hb hr (fun t ht hW => ⟨⟨3, (), rfl, rfl, P_at ht hP⟩, hS.F ht⟩) hS.2.2 dX5_kind_91
          have hsp := itF hsp c13
          refine lv_bipush (v := (-6)) hx hb dX5_kind_85 (by decide) ?_
          refine lv_goto (tgt := 91) hx hb dX5_kind_87 (by decide) ?_
          have hres := Option.some.inj hsp
          subst hres
          exact W.iret (v := (-6)) hx hb hr (fun t ht hW => ⟨⟨(-6), (), rfl, rfl, P_at ht hP⟩, hS.F ht⟩) hS.2.2 dX5_kind_91
        have hsp := itF hsp c11
        refine lv_iconst (v := 1) hx hb dX5_kind_71 (by decide) ?_
        refine lv_goto (tgt := 76) hx hb dX5_kind_72 (by decide) ?_
        refine lv_isub hx hb dX5_kind_76 ?_
        obtain ⟨x14, ex14, hsp⟩ := nmE hsp
        refine r_top ex14 ?_
        refine va_put (D := D) (ci := 5) (v := .int x14) (ty := .int) (C := RX5) (T := TX5) (N := 13) hx hb hts hi_X5 tyX5 tyX5_ok nmX5 hown hK hP hD hS 0 rfl rfl 12 (by decide) hf_123 (fun _ h9 => h9) rfl (by decide +kernel) rfl rfl (Nat.le_of_ble_eq_true rfl) dX5_kind_77 (fun H locs hP hD hS => ?_)
        have hP : va_P D vwCl [(a0, .inr (5, [w0_0, w0_1, w0_2, w0_3, w0_4, w0_5, w0_6, w0_7, .ref a9, .int g0_9, w0_10, w0_11, .int x14])), (a9, .inl (cC, 60, .inl f9))] H := hP
        have hD : va_D A [(a0, .inr (5, [w0_0, w0_1, w0_2, w0_3, w0_4, w0_5, w0_6, w0_7, .ref a9, .int g0_9, w0_10, w0_11, .int x14])), (a9, .inl (cC, 60, .inl f9))] := hD
        refine lv_iload_n hx hb dX5_kind_80 rfl (lv_at hl 0 rfl) ?_
        refine lv_iload_n hx hb dX5_kind_81 rfl (lv_at hl 2 rfl) ?_
        refine lv_icmp_gt (tgt := 90) hx hb dX5_kind_82 (by decide) (fun c15 => ?_) (fun c15 => ?_)
        · have hsp := itT hsp c15
          refine lv_iload_n hx hb dX5_kind_90 rfl (lv_at hl 0 rfl) ?_
          have hres := Option.some.inj hsp
          subst hres
          exact W.iret (v := 3) hx hb hr (fun t ht hW => ⟨⟨3, (), rfl, rfl, P_at ht hP⟩, hS.F ht⟩) hS.2.2 dX5_kind_91
        have hsp := itF hsp c15
        refine lv_bipush (v := (-6)) hx hb dX5_kind_85 (by decide) ?_
        refine lv_goto (tgt := 91) hx hb dX5_kind_87 (by decide) ?_
        have hres := Option.some.inj hsp
        subst hres
        exact W.iret (v := (-6)) hx hb hr (fun t ht hW => ⟨⟨(-6), (), rfl, rfl, P_at ht hP⟩, hS.F ht⟩) hS.2.2 dX5_kind_91
      have hsp := itF hsp c6
      refine lv_iconst (v := 2) hx hb dX5_kind_35 (by decide) ?_
      refine lv_goto (tgt := 54) hx hb dX5_kind_36 (by decide) ?_
      refine lv_istore_n (lv' := [(2, .int 2), (0, .ref a0), (1, .int u1)]) hx hb dX5_kind_54 rfl hl (by decide) rfl (fun ls hl => ?_)
      refine lv_aload_n hx hb dX5_kind_55 rfl (lv_at hl 1 rfl) ?_
      refine lv_dup hx hb dX5_kind_56 rfl ?_
      refine va_get (D := D) (ci := 5) (v := .int r5.2) (C := RX5) (T := TX5) (N := 13) hx hb hts hi_X5 hown hK hP 0 rfl rfl 12 (by decide) hf_123 (fun _ h9 => h9) rfl dX5_kind_57 ?_
      refine lv_iload_n hx hb dX5_kind_60 rfl (lv_at hl 0 rfl) ?_
      refine lv_bipush (v := (-6)) hx hb dX5_kind_61 (by decide) ?_
      refine lv_icmp_eq (tgt := 75) hx hb dX5_kind_63 (by decide) (fun hc => absurd hc (by decide)) (fun _ => ?_)
      refine lv_iload_n hx hb dX5_kind_66 rfl (lv_at hl 0 rfl) ?_
      refine lv_iload_n hx hb dX5_kind_67 rfl (lv_at hl 2 rfl) ?_
      refine lv_icmp_gt (tgt := 75) hx hb dX5_kind_68 (by decide) (fun c16 => ?_) (fun c16 => ?_)
      · have hsp := itT hsp c16
        refine lv_iconst (v := 0) hx hb dX5_kind_75 (by decide) ?_
        refine lv_isub hx hb dX5_kind_76 ?_
        obtain ⟨x17, ex17, hsp⟩ := nmE hsp
        refine r_top ex17 ?_
        refine va_put (D := D) (ci := 5) (v := .int x17) (ty := .int) (C := RX5) (T := TX5) (N := 13) hx hb hts hi_X5 tyX5 tyX5_ok nmX5 hown hK hP hD hS 0 rfl rfl 12 (by decide) hf_123 (fun _ h9 => h9) rfl (by decide +kernel) rfl rfl (Nat.le_of_ble_eq_true rfl) dX5_kind_77 (fun H locs hP hD hS => ?_)
        have hP : va_P D vwCl [(a0, .inr (5, [w0_0, w0_1, w0_2, w0_3, w0_4, w0_5, w0_6, w0_7, .ref a9, .int g0_9, w0_10, w0_11, .int x17])), (a9, .inl (cC, 60, .inl f9))] H := hP
        have hD : va_D A [(a0, .inr (5, [w0_0, w0_1, w0_2, w0_3, w0_4, w0_5, w0_6, w0_7, .ref a9, .int g0_9, w0_10, w0_11, .int x17])), (a9, .inl (cC, 60, .inl f9))] := hD
        refine lv_iload_n hx hb dX5_kind_80 rfl (lv_at hl 0 rfl) ?_
        refine lv_iload_n hx hb dX5_kind_81 rfl (lv_at hl 2 rfl) ?_
        refine lv_icmp_gt (tgt := 90) hx hb dX5_kind_82 (by decide) (fun c18 => ?_) (fun c18 => ?_)
        · have hsp := itT hsp c18
          refine lv_iload_n hx hb dX5_kind_90 rfl (lv_at hl 0 rfl) ?_
          have hres := Option.some.inj hsp
          subst hres
          exact W.iret (v := 2) hx hb hr (fun t ht hW => ⟨⟨2, (), rfl, rfl, P_at ht hP⟩, hS.F ht⟩) hS.2.2 dX5_kind_91
        have hsp := itF hsp c18
        refine lv_bipush (v := (-6)) hx hb dX5_kind_85 (by decide) ?_
        refine lv_goto (tgt := 91) hx hb dX5_kind_87 (by decide) ?_
        have hres := Option.some.inj hsp
        subst hres
        exact W.iret (v := (-6)) hx hb hr (fun t ht hW => ⟨⟨(-6), (), rfl, rfl, P_at ht hP⟩, hS.F ht⟩) hS.2.2 dX5_kind_91
      have hsp := itF hsp c16
      refine lv_iconst (v := 1) hx hb dX5_kind_71 (by decide) ?_
      refine lv_goto (tgt := 76) hx hb dX5_kind_72 (by decide) ?_
      refine lv_isub hx hb dX5_kind_76 ?_
      obtain ⟨x19, ex19, hsp⟩ := nmE hsp
      refine r_top ex19 ?_
      refine va_put (D := D) (ci := 5) (v := .int x19) (ty := .int) (C := RX5) (T := TX5) (N := 13) hx hb hts hi_X5 tyX5 tyX5_ok nmX5 hown hK hP hD hS 0 rfl rfl 12 (by decide) hf_123 (fun _ h9 => h9) rfl (by decide +kernel) rfl rfl (Nat.le_of_ble_eq_true rfl) dX5_kind_77 (fun H locs hP hD hS => ?_)
      have hP : va_P D vwCl [(a0, .inr (5, [w0_0, w0_1, w0_2, w0_3, w0_4, w0_5, w0_6, w0_7, .ref a9, .int g0_9, w0_10, w0_11, .int x19])), (a9, .inl (cC, 60, .inl f9))] H := hP
      have hD : va_D A [(a0, .inr (5, [w0_0, w0_1, w0_2, w0_3, w0_4, w0_5, w0_6, w0_7, .ref a9, .int g0_9, w0_10, w0_11, .int x19])), (a9, .inl (cC, 60, .inl f9))] := hD
      refine lv_iload_n hx hb dX5_kind_80 rfl (lv_at hl 0 rfl) ?_
      refine lv_iload_n hx hb dX5_kind_81 rfl (lv_at hl 2 rfl) ?_
      refine lv_icmp_gt (tgt := 90) hx hb dX5_kind_82 (by decide) (fun c20 => ?_) (fun c20 => ?_)
      · have hsp := itT hsp c20
        refine lv_iload_n hx hb dX5_kind_90 rfl (lv_at hl 0 rfl) ?_
        have hres := Option.some.inj hsp
        subst hres
        exact W.iret (v := 2) hx hb hr (fun t ht hW => ⟨⟨2, (), rfl, rfl, P_at ht hP⟩, hS.F ht⟩) hS.2.2 dX5_kind_91
      have hsp := itF hsp c20
      refine lv_bipush (v := (-6)) hx hb dX5_kind_85 (by decide) ?_
      refine lv_goto (tgt := 91) hx hb dX5_kind_87 (by decide) ?_
      have hres := Option.some.inj hsp
      subst hres
      exact W.iret (v := (-6)) hx hb hr (fun t ht hW => ⟨⟨(-6), (), rfl, rfl, P_at ht hP⟩, hS.F ht⟩) hS.2.2 dX5_kind_91
    have hsp := itF hsp c4
    refine lv_iconst (v := 1) hx hb dX5_kind_22 (by decide) ?_
    refine lv_goto (tgt := 54) hx hb dX5_kind_23 (by decide) ?_
    refine lv_istore_n (lv' := [(2, .int 1), (0, .ref a0), (1, .int u1)]) hx hb dX5_kind_54 rfl hl (by decide) rfl (fun ls hl => ?_)
    refine lv_aload_n hx hb dX5_kind_55 rfl (lv_at hl 1 rfl) ?_
    refine lv_dup hx hb dX5_kind_56 rfl ?_
    refine va_get (D := D) (ci := 5) (v := .int r3.2) (C := RX5) (T := TX5) (N := 13) hx hb hts hi_X5 hown hK hP 0 rfl rfl 12 (by decide) hf_123 (fun _ h9 => h9) rfl dX5_kind_57 ?_
    refine lv_iload_n hx hb dX5_kind_60 rfl (lv_at hl 0 rfl) ?_
    refine lv_bipush (v := (-6)) hx hb dX5_kind_61 (by decide) ?_
    refine lv_icmp_eq (tgt := 75) hx hb dX5_kind_63 (by decide) (fun hc => absurd hc (by decide)) (fun _ => ?_)
    refine lv_iload_n hx hb dX5_kind_66 rfl (lv_at hl 0 rfl) ?_
    refine lv_iload_n hx hb dX5_kind_67 rfl (lv_at hl 2 rfl) ?_
    refine lv_icmp_gt (tgt := 75) hx hb dX5_kind_68 (by decide) (fun c21 => ?_) (fun c21 => ?_)
    · have hsp := itT hsp c21
      refine lv_iconst (v := 0) hx hb dX5_kind_75 (by decide) ?_
      refine lv_isub hx hb dX5_kind_76 ?_
      obtain ⟨x22, ex22, hsp⟩ := nmE hsp
      refine r_top ex22 ?_
      refine va_put (D := D) (ci := 5) (v := .int x22) (ty := .int) (C := RX5) (T := TX5) (N := 13) hx hb hts hi_X5 tyX5 tyX5_ok nmX5 hown hK hP hD hS 0 rfl rfl 12 (by decide) hf_123 (fun _ h9 => h9) rfl (by decide +kernel) rfl rfl (Nat.le_of_ble_eq_true rfl) dX5_kind_77 (fun H locs hP hD hS => ?_)
      have hP : va_P D vwCl [(a0, .inr (5, [w0_0, w0_1, w0_2, w0_3, w0_4, w0_5, w0_6, w0_7, .ref a9, .int g0_9, w0_10, w0_11, .int x22])), (a9, .inl (cC, 60, .inl f9))] H := hP
      have hD : va_D A [(a0, .inr (5, [w0_0, w0_1, w0_2, w0_3, w0_4, w0_5, w0_6, w0_7, .ref a9, .int g0_9, w0_10, w0_11, .int x22])), (a9, .inl (cC, 60, .inl f9))] := hD
      refine lv_iload_n hx hb dX5_kind_80 rfl (lv_at hl 0 rfl) ?_
      refine lv_iload_n hx hb dX5_kind_81 rfl (lv_at hl 2 rfl) ?_
      refine lv_icmp_gt (tgt := 90) hx hb dX5_kind_82 (by decide) (fun c23 => ?_) (fun c23 => ?_)
      · have hsp := itT hsp c23
        refine lv_iload_n hx hb dX5_kind_90 rfl (lv_at hl 0 rfl) ?_
        have hres := Option.some.inj hsp
        subst hres
        exact W.iret (v := 1) hx hb hr (fun t ht hW => ⟨⟨1, (), rfl, rfl, P_at ht hP⟩, hS.F ht⟩) hS.2.2 dX5_kind_91
      have hsp := itF hsp c23
      refine lv_bipush (v := (-6)) hx hb dX5_kind_85 (by decide) ?_
      refine lv_goto (tgt := 91) hx hb dX5_kind_87 (by decide) ?_
      have hres := Option.some.inj hsp
      subst hres
      exact W.iret (v := (-6)) hx hb hr (fun t ht hW => ⟨⟨(-6), (), rfl, rfl, P_at ht hP⟩, hS.F ht⟩) hS.2.2 dX5_kind_91
    have hsp := itF hsp c21
    refine lv_iconst (v := 1) hx hb dX5_kind_71 (by decide) ?_
    refine lv_goto (tgt := 76) hx hb dX5_kind_72 (by decide) ?_
    refine lv_isub hx hb dX5_kind_76 ?_
    obtain ⟨x24, ex24, hsp⟩ := nmE hsp
    refine r_top ex24 ?_
    refine va_put (D := D) (ci := 5) (v := .int x24) (ty := .int) (C := RX5) (T := TX5) (N := 13) hx hb hts hi_X5 tyX5 tyX5_ok nmX5 hown hK hP hD hS 0 rfl rfl 12 (by decide) hf_123 (fun _ h9 => h9) rfl (by decide +kernel) rfl rfl (Nat.le_of_ble_eq_true rfl) dX5_kind_77 (fun H locs hP hD hS => ?_)
    have hP : va_P D vwCl [(a0, .inr (5, [w0_0, w0_1, w0_2, w0_3, w0_4, w0_5, w0_6, w0_7, .ref a9, .int g0_9, w0_10, w0_11, .int x24])), (a9, .inl (cC, 60, .inl f9))] H := hP
    have hD : va_D A [(a0, .inr (5, [w0_0, w0_1, w0_2, w0_3, w0_4, w0_5, w0_6, w0_7, .ref a9, .int g0_9, w0_10, w0_11, .int x24])), (a9, .inl (cC, 60, .inl f9))] := hD
    refine lv_iload_n hx hb dX5_kind_80 rfl (lv_at hl 0 rfl) ?_
    refine lv_iload_n hx hb dX5_kind_81 rfl (lv_at hl 2 rfl) ?_
    refine lv_icmp_gt (tgt := 90) hx hb dX5_kind_82 (by decide) (fun c25 => ?_) (fun c25 => ?_)
    · have hsp := itT hsp c25
      refine lv_iload_n hx hb dX5_kind_90 rfl (lv_at hl 0 rfl) ?_
      have hres := Option.some.inj hsp
      subst hres
      exact W.iret (v := 1) hx hb hr (fun t ht hW => ⟨⟨1, (), rfl, rfl, P_at ht hP⟩, hS.F ht⟩) hS.2.2 dX5_kind_91
    have hsp := itF hsp c25
    refine lv_bipush (v := (-6)) hx hb dX5_kind_85 (by decide) ?_
    refine lv_goto (tgt := 91) hx hb dX5_kind_87 (by decide) ?_
    have hres := Option.some.inj hsp
    subst hres
    exact W.iret (v := (-6)) hx hb hr (fun t ht hW => ⟨⟨(-6), (), rfl, rfl, P_at ht hP⟩, hS.F ht⟩) hS.2.2 dX5_kind_91
  have hsp := itF hsp c2
  refine lv_iconst (v := 0) hx hb dX5_kind_9 (by decide) ?_
  refine lv_goto (tgt := 54) hx hb dX5_kind_10 (by decide) ?_
  refine lv_istore_n (lv' := [(2, .int 0), (0, .ref a0), (1, .int u1)]) hx hb dX5_kind_54 rfl hl (by decide) rfl (fun ls hl => ?_)
  refine lv_aload_n hx hb dX5_kind_55 rfl (lv_at hl 1 rfl) ?_
  refine lv_dup hx hb dX5_kind_56 rfl ?_
  refine va_get (D := D) (ci := 5) (v := .int r1.2) (C := RX5) (T := TX5) (N := 13) hx hb hts hi_X5 hown hK hP 0 rfl rfl 12 (by decide) hf_123 (fun _ h9 => h9) rfl dX5_kind_57 ?_
  refine lv_iload_n hx hb dX5_kind_60 rfl (lv_at hl 0 rfl) ?_
  refine lv_bipush (v := (-6)) hx hb dX5_kind_61 (by decide) ?_
  refine lv_icmp_eq (tgt := 75) hx hb dX5_kind_63 (by decide) (fun hc => absurd hc (by decide)) (fun _ => ?_)
  refine lv_iload_n hx hb dX5_kind_66 rfl (lv_at hl 0 rfl) ?_
  refine lv_iload_n hx hb dX5_kind_67 rfl (lv_at hl 2 rfl) ?_
  refine lv_icmp_gt (tgt := 75) hx hb dX5_kind_68 (by decide) (fun c26 => ?_) (fun c26 => ?_)
  · have hsp := itT hsp c26
    refine lv_iconst (v := 0) hx hb dX5_kind_75 (by decide) ?_
    refine lv_isub hx hb dX5_kind_76 ?_
    obtain ⟨x27, ex27, hsp⟩ := nmE hsp
    refine r_top ex27 ?_
    refine va_put (D := D) (ci := 5) (v := .int x27) (ty := .int) (C := RX5) (T := TX5) (N := 13) hx hb hts hi_X5 tyX5 tyX5_ok nmX5 hown hK hP hD hS 0 rfl rfl 12 (by decide) hf_123 (fun _ h9 => h9) rfl (by decide +kernel) rfl rfl (Nat.le_of_ble_eq_true rfl) dX5_kind_77 (fun H locs hP hD hS => ?_)
    have hP : va_P D vwCl [(a0, .inr (5, [w0_0, w0_1, w0_2, w0_3, w0_4, w0_5, w0_6, w0_7, .ref a9, .int g0_9, w0_10, w0_11, .int x27])), (a9, .inl (cC, 60, .inl f9))] H := hP
    have hD : va_D A [(a0, .inr (5, [w0_0, w0_1, w0_2, w0_3, w0_4, w0_5, w0_6, w0_7, .ref a9, .int g0_9, w0_10, w0_11, .int x27])), (a9, .inl (cC, 60, .inl f9))] := hD
    refine lv_iload_n hx hb dX5_kind_80 rfl (lv_at hl 0 rfl) ?_
    refine lv_iload_n hx hb dX5_kind_81 rfl (lv_at hl 2 rfl) ?_
    refine lv_icmp_gt (tgt := 90) hx hb dX5_kind_82 (by decide) (fun c28 => ?_) (fun c28 => ?_)
    · have hsp := itT hsp c28
      refine lv_iload_n hx hb dX5_kind_90 rfl (lv_at hl 0 rfl) ?_
      have hres := Option.some.inj hsp
      subst hres
      exact W.iret (v := 0) hx hb hr (fun t ht hW => ⟨⟨0, (), rfl, rfl, P_at ht hP⟩, hS.F ht⟩) hS.2.2 dX5_kind_91
    have hsp := itF hsp c28
    refine lv_bipush (v := (-6)) hx hb dX5_kind_85 (by decide) ?_
    refine lv_goto (tgt := 91) hx hb dX5_kind_87 (by decide) ?_
    have hres := Option.some.inj hsp
    subst hres
    exact W.iret (v := (-6)) hx hb hr (fun t ht hW => ⟨⟨(-6), (), rfl, rfl, P_at ht hP⟩, hS.F ht⟩) hS.2.2 dX5_kind_91
  have hsp := itF hsp c26
  refine lv_iconst (v := 1) hx hb dX5_kind_71 (by decide) ?_
  refine lv_goto (tgt := 76) hx hb dX5_kind_72 (by decide) ?_
  refine lv_isub hx hb dX5_kind_76 ?_
  obtain ⟨x29, ex29, hsp⟩ := nmE hsp
  refine r_top ex29 ?_
  refine va_put (D := D) (ci := 5) (v := .int x29) (ty := .int) (C := RX5) (T := TX5) (N := 13) hx hb hts hi_X5 tyX5 tyX5_ok nmX5 hown hK hP hD hS 0 rfl rfl 12 (by decide) hf_123 (fun _ h9 => h9) rfl (by decide +kernel) rfl rfl (Nat.le_of_ble_eq_true rfl) dX5_kind_77 (fun H locs hP hD hS => ?_)
  have hP : va_P D vwCl [(a0, .inr (5, [w0_0, w0_1, w0_2, w0_3, w0_4, w0_5, w0_6, w0_7, .ref a9, .int g0_9, w0_10, w0_11, .int x29])), (a9, .inl (cC, 60, .inl f9))] H := hP
  have hD : va_D A [(a0, .inr (5, [w0_0, w0_1, w0_2, w0_3, w0_4, w0_5, w0_6, w0_7, .ref a9, .int g0_9, w0_10, w0_11, .int x29])), (a9, .inl (cC, 60, .inl f9))] := hD
  refine lv_iload_n hx hb dX5_kind_80 rfl (lv_at hl 0 rfl) ?_
  refine lv_iload_n hx hb dX5_kind_81 rfl (lv_at hl 2 rfl) ?_
  refine lv_icmp_gt (tgt := 90) hx hb dX5_kind_82 (by decide) (fun c30 => ?_) (fun c30 => ?_)
  · have hsp := itT hsp c30
    refine lv_iload_n hx hb dX5_kind_90 rfl (lv_at hl 0 rfl) ?_
    have hres := Option.some.inj hsp
    subst hres
    exact W.iret (v := 0) hx hb hr (fun t ht hW => ⟨⟨0, (), rfl, rfl, P_at ht hP⟩, hS.F ht⟩) hS.2.2 dX5_kind_91
  have hsp := itF hsp c30
  refine lv_bipush (v := (-6)) hx hb dX5_kind_85 (by decide) ?_
  refine lv_goto (tgt := 91) hx hb dX5_kind_87 (by decide) ?_
  have hres := Option.some.inj hsp
  subst hres
  exact W.iret (v := (-6)) hx hb hr (fun t ht hW => ⟨⟨(-6), (), rfl, rfl, P_at ht hP⟩, hS.F ht⟩) hS.2.2 dX5_kind_91

theorem nd_X5_filling : yX5_filling.cls = RX5 ∧ yX5_filling.cls ≠ "java/lang/invoke/MethodHandle" ∧ yX5_filling.cls ≠ "java/lang/invoke/VarHandle" ∧ (parseMethodDescriptor yX5_filling.desc).map (fun d => d.parameters.length) = some 0 := by decide +kernel
set_option maxHeartbeats 8000000 in
set_option maxRecDepth 100000 in
theorem k_X5_filling (l : Launch) (D : va_G) (cI cZ cC cS : ClassId) (sz : Nat) (a0 a8 a9 : Nat) (w0_0 : Value) (w0_1 : Value) (w0_2 : Value) (w0_3 : Value) (w0_4 : Value) (w0_5 : Value) (w0_6 : Value) (g0_9 : Int32) (w0_10 : Value) (g0_11 : Int32) (g0_12 : Int32) (f8 : Nat → Int32) (f9 : Nat → Int32) (res : Int32 × Int32 × (Nat → Int32)) (hsp : s_X5_filling g0_9 g0_11 g0_12 f8 f9 = some res) : Met l yX5_filling wsX5_filling ({ frames := 3, cells := 0, slots := 0, locals := 68 }) (va_Pc [.ref a0] (PB D cI cZ cC cS [(a0, .inr (5, [w0_0, w0_1, w0_2, w0_3, w0_4, w0_5, w0_6, .ref a8, .ref a9, .int g0_9, w0_10, .int g0_11, .int g0_12])), (a8, .inl (cI, 192, .inl f8)), (a9, .inl (cC, 60, .inl f9))] sz)) (va_Qi (fun r (_ : Unit) => r = res.1 ∧ (res.1 = 0 ∨ res.1 = 1)) (fun _ t => va_P D vwCl [(a0, .inr (5, [w0_0, w0_1, w0_2, w0_3, w0_4, w0_5, w0_6, .ref a8, .ref a9, .int g0_9, w0_10, .int g0_11, .int res.2.1])), (a8, .inl (cI, 192, .inl res.2.2)), (a9, .inl (cC, 60, .inl f9))] t.heap) (va_A [(a0, .inr (5, [w0_0, w0_1, w0_2, w0_3, w0_4, w0_5, w0_6, .ref a8, .ref a9, .int g0_9, w0_10, .int g0_11, .int g0_12])), (a8, .inl (cI, 192, .inl f8)), (a9, .inl (cC, 60, .inl f9))] sz)) 0 0 (va_A [(a0, .inr (5, [w0_0, w0_1, w0_2, w0_3, w0_4, w0_5, w0_6, .ref a8, .ref a9, .int g0_9, w0_10, .int g0_11, .int g0_12])), (a8, .inl (cI, 192, .inl f8)), (a9, .inl (cC, 60, .inl f9))] sz) := by
  refine Met.ofW (cc := cX5_filling) (maxL := 6) (ret := (some .boolean)) (by decide) rfl ?_
  intro p e s m args below meth c s₁ B hml hv
  obtain ⟨rfl, hsz, hP, hD0, hKU⟩ := hv
  have hx := B.exec
  have hb := B.bytes
  have hr := B.returns
  have hts := atoms_spec (ws := wsX5_filling) B.pre
  have hown : s.vm.findClass RX5 = some m.cls := findClass_of_methodNamed B.named
  have hlocks := B.notSynchronized
  have hK := hKU.1
  have hf_133 := hts (.fieldLink RX5 133 "ThinnedPotsModel" "works" "I") (by decide +kernel)
  have hi_X5 : ∀ w ∈ u_ws RX5 TX5 13, w ∈ wsX5_filling := by decide +kernel
  have hf_32 := hts (.fieldLink RX5 32 "ThinnedPotsModel" "read" "[I") (by decide +kernel)
  subst hsz
  have hD := hD0.self (sz := s.heap.size)
  generalize hAe : va_A [(a0, .inr (5, [w0_0, w0_1, w0_2, w0_3, w0_4, w0_5, w0_6, .ref a8, .ref a9, .int g0_9, w0_10, .int g0_11, .int g0_12])), (a8, .inl (cI, 192, .inl f8)), (a9, .inl (cC, 60, .inl f9))] s.heap.size = A at hD ⊢
  have hA : ∀ q : Nat, s.heap.size ≤ q → A q := fun q h => by rw [← hAe]; exact Or.inr h
  have hP : va_P D vwCl [(a0, .inr (5, [w0_0, w0_1, w0_2, w0_3, w0_4, w0_5, w0_6, .ref a8, .ref a9, .int g0_9, w0_10, .int g0_11, .int g0_12])), (a8, .inl (cI, 192, .inl f8)), (a9, .inl (cC, 60, .inl f9))] s.heap := hP
  generalize hHe : s.heap = H at hP ⊢
  have hS : va_S A s.heap H [] := by rw [hHe]; exact va_S.rf
  have hl := lv_entry ([.ref a0]) (n := 6) (Nat.le_of_ble_eq_true rfl)
  rw [lg_entry_eq]
  generalize (lg_sl ([.ref a0]) ++ List.replicate (6 - (lg_sl ([.ref a0])).length) Slot.unset).toArray = ls at hl ⊢
  have hl : lv_has ls 6 [(0, .ref a0)] := hl
  unfold s_X5_filling at hsp
  refine lv_bipush (v := 6) hx hb dX5_filling_0 (by decide) ?_
  refine lv_aload_n hx hb dX5_filling_2 rfl (lv_at hl 0 rfl) ?_
  refine va_get (D := D) (ci := 5) (v := .int g0_11) (C := RX5) (T := TX5) (N := 13) hx hb hts hi_X5 hown hK hP 0 rfl rfl 11 (by decide) hf_133 (fun _ h9 => h9) rfl dX5_filling_3 ?_
  refine lv_imul hx hb dX5_filling_6 ?_
  obtain ⟨x1, ex1, hsp⟩ := nmE hsp
  refine r_top ex1 ?_
  refine lv_istore_n (lv' := [(1, .int x1), (0, .ref a0)]) hx hb dX5_filling_7 rfl hl (by decide) rfl (fun ls hl => ?_)
  refine lv_iconst (v := 0) hx hb dX5_filling_8 (by decide) ?_
  refine lv_istore_n (lv' := [(2, .int 0), (1, .int x1), (0, .ref a0)]) hx hb dX5_filling_9 rfl hl (by decide) rfl (fun ls hl => ?_)
  refine ex_rule (D := D) (K := s_X5_filling_X1 g0_9 g0_11 f9 x1 g0_12) (P := fun (t1 : (Nat → Int32)) => [(a0, .inr (5, [w0_0, w0_1, w0_2, w0_3, w0_4, w0_5, w0_6, .ref a8, .ref a9, .int g0_9, w0_10, .int g0_11, .int g0_12])), (a8, .inl (cI, 192, .inl t1)), (a9, .inl (cC, 60, .inl f9))]) (L := fun (t1 : (Nat → Int32)) => [(0, .ref a0), (1, .int x1)]) (nL := 6) (pcx := 32) (res := res) (A := A) (H0 := s.heap) ?_ (fun hx1 => ?_)
  · intro t1 H locs hsp hP hD hS ls hl
    obtain ⟨y4, rfl⟩ : ∃ z, z = t1 := ⟨_, rfl⟩
    unfold s_X5_filling_X1 at hsp; try dsimp only at hsp
    have hP : va_P D vwCl [(a0, .inr (5, [w0_0, w0_1, w0_2, w0_3, w0_4, w0_5, w0_6, .ref a8, .ref a9, .int g0_9, w0_10, .int g0_11, .int g0_12])), (a8, .inl (cI, 192, .inl y4)), (a9, .inl (cC, 60, .inl f9))] H := hP
    have hD : va_D A [(a0, .inr (5, [w0_0, w0_1, w0_2, w0_3, w0_4, w0_5, w0_6, .ref a8, .ref a9, .int g0_9, w0_10, .int g0_11, .int g0_12])), (a8, .inl (cI, 192, .inl y4)), (a9, .inl (cC, 60, .inl f9))] := hD
    have hl : lv_has ls 6 [(0, .ref a0), (1, .int x1)] := hl
    refine lv_iconst (v := (-1)) hx hb dX5_filling_32 (by decide) ?_
    refine lv_istore_n (lv' := [(2, .int (-1)), (0, .ref a0), (1, .int x1)]) hx hb dX5_filling_33 rfl hl (by decide) rfl (fun ls hl => ?_)
    refine lv_iconst (v := 1) hx hb dX5_filling_34 (by decide) ?_
    refine lv_istore_n (lv' := [(3, .int 1), (2, .int (-1)), (0, .ref a0), (1, .int x1)]) hx hb dX5_filling_35 rfl hl (by decide) rfl (fun ls hl => ?_)
    refine ex_rule (D := D) (K := s_X5_filling_X2 x1) (P := fun (t2 : Int32 × Int32 × (Nat → Int32)) => [(a0, .inr (5, [w0_0, w0_1, w0_2, w0_3, w0_4, w0_5, w0_6, .ref a8, .ref a9, .int g0_9, w0_10, .int g0_11, .int t2.2.1])), (a8, .inl (cI, 192, .inl t2.2.2)), (a9, .inl (cC, 60, .inl f9))]) (L := fun (t2 : Int32 × Int32 × (Nat → Int32)) => [(0, .ref a0), (1, .int x1), (3, .int t2.1)]) (nL := 6) (pcx := 126) (res := res) (A := A) (H0 := s.heap) ?_ (fun hx2 => ?_)
    · intro t2 H locs hsp hP hD hS ls hl
      obtain ⟨x9, x10, y11⟩ := t2
      unfold s_X5_filling_X2 at hsp; try dsimp only at hsp
      have hP : va_P D vwCl [(a0, .inr (5, [w0_0, w0_1, w0_2, w0_3, w0_4, w0_5, w0_6, .ref a8, .ref a9, .int g0_9, w0_10, .int g0_11, .int x10])), (a8, .inl (cI, 192, .inl y11)), (a9, .inl (cC, 60, .inl f9))] H := hP
      have hD : va_D A [(a0, .inr (5, [w0_0, w0_1, w0_2, w0_3, w0_4, w0_5, w0_6, .ref a8, .ref a9, .int g0_9, w0_10, .int g0_11, .int x10])), (a8, .inl (cI, 192, .inl y11)), (a9, .inl (cC, 60, .inl f9))] := hD
      have hl : lv_has ls 6 [(0, .ref a0), (1, .int x1), (3, .int x9)] := hl
      refine lv_aload_n hx hb dX5_filling_126 rfl (lv_at hl 0 rfl) ?_
      refine va_get (D := D) (ci := 5) (v := .ref a8) (C := RX5) (T := TX5) (N := 13) hx hb hts hi_X5 hown hK hP 0 rfl rfl 7 (by decide) hf_32 (fun _ h9 => h9) rfl dX5_filling_127 ?_
      refine lv_iload_n hx hb dX5_filling_130 rfl (lv_at hl 1 rfl) ?_
      refine lv_bipush (v := 43) hx hb dX5_filling_131 (by decide) ?_
      obtain ⟨y12, ey12, hny12, hsp⟩ := stoE hsp
      refine r_iast (ws' := [(a0, .inr (5, [w0_0, w0_1, w0_2, w0_3, w0_4, w0_5, w0_6, .ref a8, .ref a9, .int g0_9, w0_10, .int g0_11, .int x10])), (a8, .inl (cI, 192, .inl y12)), (a9, .inl (cC, 60, .inl f9))]) hx hb hK hP hD hS 1 0 rfl rfl ey12 hny12 rfl dX5_filling_133 (fun H locs hP hD hS => ?_)
      refine lv_iload_n hx hb dX5_filling_134 rfl (lv_at hl 2 rfl) ?_
      obtain ⟨hz13, hsp⟩ := zckE hsp
      have hres := Option.some.inj hsp
      subst hres
      exact W.zret (v := x9) hx hb hr (zE hz13) (fun t ht hW => ⟨⟨x9, (), rfl, ⟨rfl, hz13⟩, P_at ht hP⟩, hS.F ht⟩) hS.2.2 dX5_filling_135
    have hl := lv_sub hl (l' := [(0, .ref a0), (1, .int x1), (2, .int (-1)), (3, .int 1)]) [2, 3, 1, 0] rfl
    refine lp_rule (D := D) (F := s_X5_filling_L2 g0_9 g0_11 f9 x1 (s_X5_filling_X2 x1)) (P := fun (tv : Int32 × Int32 × Int32 × (Nat → Int32)) => [(a0, .inr (5, [w0_0, w0_1, w0_2, w0_3, w0_4, w0_5, w0_6, .ref a8, .ref a9, .int g0_9, w0_10, .int g0_11, .int tv.2.2.1])), (a8, .inl (cI, 192, .inl tv.2.2.2)), (a9, .inl (cC, 60, .inl f9))]) (L := fun (tv : Int32 × Int32 × Int32 × (Nat → Int32)) => [(0, .ref a0), (1, .int x1), (2, .int tv.1), (3, .int tv.2.1)]) (nL := 6) (res := res) (A := A) (H0 := s.heap) (fun _ => rfl) ?_ 1000 ((-1), 1, g0_12, y4) _ _ hsp hP hD hS _ hl
    · intro n2 ih2 tv H locs hsp hP hD hS ls hl
      obtain ⟨x5, x6, x7, y8⟩ := tv
      have hsp : s_X5_filling_B2  g0_9 g0_11 f9 x1 (s_X5_filling_X2 x1) (s_X5_filling_L2 g0_9 g0_11 f9 x1 (s_X5_filling_X2 x1) n2) x5 x6 x7 y8 = some res := hsp
      unfold s_X5_filling_B2 at hsp
      have hP : va_P D vwCl [(a0, .inr (5, [w0_0, w0_1, w0_2, w0_3, w0_4, w0_5, w0_6, .ref a8, .ref a9, .int g0_9, w0_10, .int g0_11, .int x7])), (a8, .inl (cI, 192, .inl y8)), (a9, .inl (cC, 60, .inl f9))] H := hP
      have hD : va_D A [(a0, .inr (5, [w0_0, w0_1, w0_2, w0_3, w0_4, w0_5, w0_6, .ref a8, .ref a9, .int g0_9, w0_10, .int g0_11, .int x7])), (a8, .inl (cI, 192, .inl y8)), (a9, .inl (cC, 60, .inl f9))] := hD
      have hl : lv_has ls 6 [(0, .ref a0), (1, .int x1), (2, .int x5), (3, .int x6)] := hl
      refine lv_iload_n hx hb dX5_filling_36 rfl (lv_at hl 3 rfl) ?_
      refine lv_if_eq (tgt := 126) hx hb dX5_filling_37 (by decide) (fun c14 => ?_) (fun c14 => ?_)
      · have hsp := itT hsp c14
        exact hx2 (x6, x7, y8) _ _ hsp hP hD hS _ (lv_sub hl [0, 1, 3] rfl)
      have hsp := itF hsp c14
      refine lv_iload_n hx hb dX5_filling_40 rfl (lv_at hl 2 rfl) ?_
      refine lv_if_lt (tgt := 60) hx hb dX5_filling_41 (by decide) (fun c15 => ?_) (fun c15 => ?_)
      · have hsp := itT hsp c15
        refine lv_aload_n hx hb dX5_filling_60 rfl (lv_at hl 0 rfl) ?_
        refine lv_iconst (v := 0) hx hb dX5_filling_61 (by decide) ?_
        obtain ⟨r16, hcr16, hsp⟩ := clE hsp
        refine call_z (w1 := [(a0, .inr (5, [w0_0, w0_1, w0_2, w0_3, w0_4, w0_5, w0_6, .ref a8, .ref a9, .int g0_9, w0_10, .int g0_11, .int r16.2.1])), (a8, .inl (cI, 192, .inl r16.2.2)), (a9, .inl (cC, 60, .inl f9))]) (ws' := [(a0, .inr (5, [w0_0, w0_1, w0_2, w0_3, w0_4, w0_5, w0_6, .ref a8, .ref a9, .int g0_9, w0_10, .int g0_11, .int r16.2.1])), (a8, .inl (cI, 192, .inl r16.2.2)), (a9, .inl (cC, 60, .inl f9))]) (va_runV (As := [.int 0]) (rest := []) ⟨hx, hb, hml, hown, hts⟩ (k_X5_number l D cI cZ cC cS H.size a0 a8 a9 (w0_0) (w0_1) (w0_2) (w0_3) (w0_4) (w0_5) (w0_6) g0_9 (w0_10) g0_11 x7 y8 f9 0 r16 hcr16) (cwV 1 hts gX5_filling_X5_number rfl rfl rfl nd_X5_number ⟨Nat.le_of_ble_eq_true rfl, Nat.le_of_ble_eq_true rfl⟩) (PB.preV (ci := 5) (q0 := 0) hKU hP hD [0, 1, 2] rfl rfl rfl rfl) rfl rfl hl.1 rfl (lv_room (Nat.le_of_ble_eq_true rfl)) dX5_filling_62 ⟨Nat.zero_le _, Nat.zero_le _⟩) hS hP hD hA [0, 1, 2] rfl rfl (by first | (simp only [wset, List.set_cons_zero, List.set_cons_succ]; done) | rfl) rfl (fun H locs hP hD hS hzr16 => ?_)
        refine lv_istore_n (lv' := [(3, .int r16.1), (0, .ref a0), (1, .int x1), (2, .int x5)]) hx hb dX5_filling_65 rfl hl (by decide) rfl (fun ls hl => ?_)
        refine lv_aload_n hx hb dX5_filling_66 rfl (lv_at hl 1 rfl) ?_
        refine va_get (D := D) (ci := 5) (v := .ref a8) (C := RX5) (T := TX5) (N := 13) hx hb hts hi_X5 hown hK hP 0 rfl rfl 7 (by decide) hf_32 (fun _ h9 => h9) rfl dX5_filling_67 ?_
        refine lv_iload_n hx hb dX5_filling_70 rfl (lv_at hl 2 rfl) ?_
        obtain ⟨x17, ex17, hnx17, hsp⟩ := ldE hsp
        refine r_iald hx hb hK hP 1 0 rfl rfl ex17 hnx17 dX5_filling_71 ?_
        refine lv_istore (lv' := [(4, .int x17), (3, .int r16.1), (0, .ref a0), (1, .int x1), (2, .int x5)]) hx hb dX5_filling_72 hl (by decide) rfl (fun ls hl => ?_)
        refine lv_iload_n hx hb dX5_filling_74 rfl (lv_at hl 1 rfl) ?_
        refine lv_if_eq (tgt := 86) hx hb dX5_filling_75 (by decide) (fun c18 => ?_) (fun c18 => ?_)
        · have hsp := itT hsp c18
          refine lv_bipush (v := (-6)) hx hb dX5_filling_86 (by decide) ?_
          refine lv_istore (lv' := [(5, .int (-6)), (4, .int x17), (3, .int r16.1), (0, .ref a0), (1, .int x1), (2, .int x5)]) hx hb dX5_filling_88 hl (by decide) rfl (fun ls hl => ?_)
          refine lv_iload hx hb dX5_filling_90 (lv_at hl 0 rfl) ?_
          refine lv_bipush (v := (-6)) hx hb dX5_filling_92 (by decide) ?_
          refine lv_icmp_eq (tgt := 101) hx hb dX5_filling_94 (by decide) (fun _ => ?_) (fun hc => absurd hc (by decide))
          refine lv_iconst (v := 0) hx hb dX5_filling_101 (by decide) ?_
          refine lv_istore_n (lv' := [(3, .int 0), (5, .int (-6)), (4, .int x17), (0, .ref a0), (1, .int x1), (2, .int x5)]) hx hb dX5_filling_102 rfl hl (by decide) rfl (fun ls hl => ?_)
          refine lv_iload_n hx hb dX5_filling_103 rfl (lv_at hl 0 rfl) ?_
          refine lv_if_eq (tgt := 123) hx hb dX5_filling_104 (by decide) (fun _ => ?_) (fun hc => absurd hc (by decide))
          refine lv_goto (tgt := 36) hx hb dX5_filling_123 (by decide) ?_
          exact ih2 (x5, 0, r16.2.1, r16.2.2) _ _ hsp hP hD hS _ (lv_sub hl [3, 4, 5, 0] rfl)
        have hsp := itF hsp c18
        refine lv_aload_n hx hb dX5_filling_78 rfl (lv_at hl 2 rfl) ?_
        refine lv_iload_n hx hb dX5_filling_79 rfl (lv_at hl 4 rfl) ?_
        obtain ⟨r19, hcr19, hsp⟩ := clE hsp
        refine call_i (w1 := [(a0, .inr (5, [w0_0, w0_1, w0_2, w0_3, w0_4, w0_5, w0_6, .ref a8, .ref a9, .int g0_9, w0_10, .int g0_11, .int r19.2])), (a9, .inl (cC, 60, .inl f9))]) (ws' := [(a0, .inr (5, [w0_0, w0_1, w0_2, w0_3, w0_4, w0_5, w0_6, .ref a8, .ref a9, .int g0_9, w0_10, .int g0_11, .int r19.2])), (a8, .inl (cI, 192, .inl r16.2.2)), (a9, .inl (cC, 60, .inl f9))]) (va_runV (As := [.int x5]) (rest := []) ⟨hx, hb, hml, hown, hts⟩ (k_X5_kind l D cI cZ cC cS H.size a0 a9 (w0_0) (w0_1) (w0_2) (w0_3) (w0_4) (w0_5) (w0_6) (.ref a8) g0_9 (w0_10) (.int g0_11) r16.2.1 f9 x5 r19 hcr19) (cwV 1 hts gX5_filling_X5_kind rfl rfl rfl nd_X5_kind ⟨Nat.le_of_ble_eq_true rfl, Nat.le_of_ble_eq_true rfl⟩) (PB.preV (ci := 5) (q0 := 0) hKU hP hD [0, 2] rfl rfl rfl rfl) rfl rfl hl.1 rfl (lv_room (Nat.le_of_ble_eq_true rfl)) dX5_filling_80 ⟨Nat.zero_le _, Nat.zero_le _⟩) hS hP hD hA [0, 2] rfl rfl (by first | (simp only [wset, List.set_cons_zero, List.set_cons_succ]; done) | rfl) rfl (fun H locs hP hD hS => ?_)
        refine lv_goto (tgt := 88) hx hb dX5_filling_83 (by decide) ?_
        refine lv_istore (lv' := [(5, .int r19.1), (4, .int x17), (3, .int r16.1), (0, .ref a0), (1, .int x1), (2, .int x5)]) hx hb dX5_filling_88 hl (by decide) rfl (fun ls hl => ?_)
        refine lv_iload hx hb dX5_filling_90 (lv_at hl 0 rfl) ?_
        refine lv_bipush (v := (-6)) hx hb dX5_filling_92 (by decide) ?_
        refine lv_icmp_eq (tgt := 101) hx hb dX5_filling_94 (by decide) (fun c20 => ?_) (fun c20 => ?_)
        · have hsp := itT hsp c20
          refine lv_iconst (v := 0) hx hb dX5_filling_101 (by decide) ?_
          refine lv_istore_n (lv' := [(3, .int 0), (5, .int r19.1), (4, .int x17), (0, .ref a0), (1, .int x1), (2, .int x5)]) hx hb dX5_filling_102 rfl hl (by decide) rfl (fun ls hl => ?_)
          refine lv_iload_n hx hb dX5_filling_103 rfl (lv_at hl 0 rfl) ?_
          refine lv_if_eq (tgt := 123) hx hb dX5_filling_104 (by decide) (fun _ => ?_) (fun hc => absurd hc (by decide))
          refine lv_goto (tgt := 36) hx hb dX5_filling_123 (by decide) ?_
          exact ih2 (x5, 0, r19.2, r16.2.2) _ _ hsp hP hD hS _ (lv_sub hl [3, 4, 5, 0] rfl)
        have hsp := itF hsp c20
        refine lv_iconst (v := 1) hx hb dX5_filling_97 (by decide) ?_
        refine lv_goto (tgt := 102) hx hb dX5_filling_98 (by decide) ?_
        refine lv_istore_n (lv' := [(3, .int 1), (5, .int r19.1), (4, .int x17), (0, .ref a0), (1, .int x1), (2, .int x5)]) hx hb dX5_filling_102 rfl hl (by decide) rfl (fun ls hl => ?_)
        refine lv_iload_n hx hb dX5_filling_103 rfl (lv_at hl 0 rfl) ?_
        refine lv_if_eq (tgt := 123) hx hb dX5_filling_104 (by decide) (fun hc => absurd hc (by decide)) (fun _ => ?_)
        refine lv_aload_n hx hb dX5_filling_107 rfl (lv_at hl 3 rfl) ?_
        refine va_get (D := D) (ci := 5) (v := .ref a8) (C := RX5) (T := TX5) (N := 13) hx hb hts hi_X5 hown hK hP 0 rfl rfl 7 (by decide) hf_32 (fun _ h9 => h9) rfl dX5_filling_108 ?_
        refine lv_iload_n hx hb dX5_filling_111 rfl (lv_at hl 4 rfl) ?_
        refine lv_iconst (v := 2) hx hb dX5_filling_112 (by decide) ?_
        refine lv_iadd hx hb dX5_filling_113 ?_
        refine lv_iload hx hb dX5_filling_114 (lv_at hl 1 rfl) ?_
        refine lv_iadd hx hb dX5_filling_116 ?_
        refine lv_iload hx hb dX5_filling_117 (lv_at hl 2 rfl) ?_
        obtain ⟨y21, ey21, hny21, hsp⟩ := stoE hsp
        refine r_iast (ws' := [(a0, .inr (5, [w0_0, w0_1, w0_2, w0_3, w0_4, w0_5, w0_6, .ref a8, .ref a9, .int g0_9, w0_10, .int g0_11, .int r19.2])), (a8, .inl (cI, 192, .inl y21)), (a9, .inl (cC, 60, .inl f9))]) hx hb hK hP hD hS 1 0 rfl rfl ey21 hny21 rfl dX5_filling_119 (fun H locs hP hD hS => ?_)
        refine lv_iload hx hb dX5_filling_120 (lv_at hl 1 rfl) ?_
        refine lv_istore_n (lv' := [(2, .int r19.1), (3, .int 1), (5, .int r19.1), (4, .int x17), (0, .ref a0), (1, .int x1)]) hx hb dX5_filling_122 rfl hl (by decide) rfl (fun ls hl => ?_)
        refine lv_goto (tgt := 36) hx hb dX5_filling_123 (by decide) ?_
        exact ih2 (r19.1, 1, r19.2, y21) _ _ hsp hP hD hS _ (lv_sub hl [4, 5, 0, 1] rfl)
      have hsp := itF hsp c15
      refine lv_iload_n hx hb dX5_filling_44 rfl (lv_at hl 2 rfl) ?_
      refine lv_iconst (v := 3) hx hb dX5_filling_45 (by decide) ?_
      refine lv_icmp_ge (tgt := 126) hx hb dX5_filling_46 (by decide) (fun c22 => ?_) (fun c22 => ?_)
      · have hsp := itT hsp c22
        exact hx2 (x6, x7, y8) _ _ hsp hP hD hS _ (lv_sub hl [0, 1, 3] rfl)
      have hsp := itF hsp c22
      refine lv_aload_n hx hb dX5_filling_49 rfl (lv_at hl 0 rfl) ?_
      refine lv_bipush (v := 48) hx hb dX5_filling_50 (by decide) ?_
      refine lv_bipush (v := 57) hx hb dX5_filling_52 (by decide) ?_
      obtain ⟨r23, hcr23, hsp⟩ := clE hsp
      refine call_z (w1 := [(a0, .inr (5, [w0_0, w0_1, w0_2, w0_3, w0_4, w0_5, w0_6, .ref a8, .ref a9, .int g0_9, w0_10, .int g0_11, .int x7])), (a9, .inl (cC, 60, .inl f9))]) (ws' := [(a0, .inr (5, [w0_0, w0_1, w0_2, w0_3, w0_4, w0_5, w0_6, .ref a8, .ref a9, .int g0_9, w0_10, .int g0_11, .int x7])), (a8, .inl (cI, 192, .inl y8)), (a9, .inl (cC, 60, .inl f9))]) (va_runV (As := [.int 48, .int 57]) (rest := []) ⟨hx, hb, hml, hown, hts⟩ (k_X5_isSign l D cI cZ cC cS H.size a0 a9 (w0_0) (w0_1) (w0_2) (w0_3) (w0_4) (w0_5) (w0_6) (.ref a8) g0_9 (w0_10) (.int g0_11) x7 f9 48 57 r23 hcr23) (cwV 2 hts gX5_filling_X5_isSign rfl rfl rfl nd_X5_isSign ⟨Nat.le_of_ble_eq_true rfl, Nat.le_of_ble_eq_true rfl⟩) (PB.preV (ci := 5) (q0 := 0) hKU hP hD [0, 2] rfl rfl rfl rfl) rfl rfl hl.1 rfl (lv_room (Nat.le_of_ble_eq_true rfl)) dX5_filling_54 ⟨Nat.zero_le _, Nat.zero_le _⟩) hS hP hD hA [0, 2] rfl rfl (by first | (simp only [wset, List.set_cons_zero, List.set_cons_succ]; done) | rfl) rfl (fun H locs hP hD hS hzr23 => ?_)
      refine lv_if_eq (tgt := 126) hx hb dX5_filling_57 (by decide) (fun c24 => ?_) (fun c24 => ?_)
      · have hsp := itT hsp c24
        exact hx2 (x6, x7, y8) _ _ hsp hP hD hS _ (lv_sub hl [0, 1, 3] rfl)
      have hsp := itF hsp c24
      refine lv_aload_n hx hb dX5_filling_60 rfl (lv_at hl 0 rfl) ?_
      refine lv_iconst (v := 0) hx hb dX5_filling_61 (by decide) ?_
      obtain ⟨r25, hcr25, hsp⟩ := clE hsp
      refine call_z (w1 := [(a0, .inr (5, [w0_0, w0_1, w0_2, w0_3, w0_4, w0_5, w0_6, .ref a8, .ref a9, .int g0_9, w0_10, .int g0_11, .int r25.2.1])), (a8, .inl (cI, 192, .inl r25.2.2)), (a9, .inl (cC, 60, .inl f9))]) (ws' := [(a0, .inr (5, [w0_0, w0_1, w0_2, w0_3, w0_4, w0_5, w0_6, .ref a8, .ref a9, .int g0_9, w0_10, .int g0_11, .int r25.2.1])), (a8, .inl (cI, 192, .inl r25.2.2)), (a9, .inl (cC, 60, .inl f9))]) (va_runV (As := [.int 0]) (rest := []) ⟨hx, hb, hml, hown, hts⟩ (k_X5_number l D cI cZ cC cS H.size a0 a8 a9 (w0_0) (w0_1) (w0_2) (w0_3) (w0_4) (w0_5) (w0_6) g0_9 (w0_10) g0_11 x7 y8 f9 0 r25 hcr25) (cwV 1 hts gX5_filling_X5_number rfl rfl rfl nd_X5_number ⟨Nat.le_of_ble_eq_true rfl, Nat.le_of_ble_eq_true rfl⟩) (PB.preV (ci := 5) (q0 := 0) hKU hP hD [0, 1, 2] rfl rfl rfl rfl) rfl rfl hl.1 rfl (lv_room (Nat.le_of_ble_eq_true rfl)) dX5_filling_62 ⟨Nat.zero_le _, Nat.zero_le _⟩) hS hP hD hA [0, 1, 2] rfl rfl (by first | (simp only [wset, List.set_cons_zero, List.set_cons_succ]; done) | rfl) rfl (fun H locs hP hD hS hzr25 => ?_)
      refine lv_istore_n (lv' := [(3, .int r25.1), (0, .ref a0), (1, .int x1), (2, .int x5)]) hx hb dX5_filling_65 rfl hl (by decide) rfl (fun ls hl => ?_)
      refine lv_aload_n hx hb dX5_filling_66 rfl (lv_at hl 1 rfl) ?_
      refine va_get (D := D) (ci := 5) (v := .ref a8) (C := RX5) (T := TX5) (N := 13) hx hb hts hi_X5 hown hK hP 0 rfl rfl 7 (by decide) hf_32 (fun _ h9 => h9) rfl dX5_filling_67 ?_
      refine lv_iload_n hx hb dX5_filling_70 rfl (lv_at hl 2 rfl) ?_
      obtain ⟨x26, ex26, hnx26, hsp⟩ := ldE hsp
      refine r_iald hx hb hK hP 1 0 rfl rfl ex26 hnx26 dX5_filling_71 ?_
      refine lv_istore (lv' := [(4, .int x26), (3, .int r25.1), (0, .ref a0), (1, .int x1), (2, .int x5)]) hx hb dX5_filling_72 hl (by decide) rfl (fun ls hl => ?_)
      refine lv_iload_n hx hb dX5_filling_74 rfl (lv_at hl 1 rfl) ?_
      refine lv_if_eq (tgt := 86) hx hb dX5_filling_75 (by decide) (fun c27 => ?_) (fun c27 => ?_)
      · have hsp := itT hsp c27
        refine lv_bipush (v := (-6)) hx hb dX5_filling_86 (by decide) ?_
        refine lv_istore (lv' := [(5, .int (-6)), (4, .int x26), (3, .int r25.1), (0, .ref a0), (1, .int x1), (2, .int x5)]) hx hb dX5_filling_88 hl (by decide) rfl (fun ls hl => ?_)
        refine lv_iload hx hb dX5_filling_90 (lv_at hl 0 rfl) ?_
        refine lv_bipush (v := (-6)) hx hb dX5_filling_92 (by decide) ?_
        refine lv_icmp_eq (tgt := 101) hx hb dX5_filling_94 (by decide) (fun _ => ?_) (fun hc => absurd hc (by decide))
        refine lv_iconst (v := 0) hx hb dX5_filling_101 (by decide) ?_
        refine lv_istore_n (lv' := [(3, .int 0), (5, .int (-6)), (4, .int x26), (0, .ref a0), (1, .int x1), (2, .int x5)]) hx hb dX5_filling_102 rfl hl (by decide) rfl (fun ls hl => ?_)
        refine lv_iload_n hx hb dX5_filling_103 rfl (lv_at hl 0 rfl) ?_
        refine lv_if_eq (tgt := 123) hx hb dX5_filling_104 (by decide) (fun _ => ?_) (fun hc => absurd hc (by decide))
        refine lv_goto (tgt := 36) hx hb dX5_filling_123 (by decide) ?_
        exact ih2 (x5, 0, r25.2.1, r25.2.2) _ _ hsp hP hD hS _ (lv_sub hl [3, 4, 5, 0] rfl)
      have hsp := itF hsp c27
      refine lv_aload_n hx hb dX5_filling_78 rfl (lv_at hl 2 rfl) ?_
      refine lv_iload_n hx hb dX5_filling_79 rfl (lv_at hl 4 rfl) ?_
      obtain ⟨r28, hcr28, hsp⟩ := clE hsp
      refine call_i (w1 := [(a0, .inr (5, [w0_0, w0_1, w0_2, w0_3, w0_4, w0_5, w0_6, .ref a8, .ref a9, .int g0_9, w0_10, .int g0_11, .int r28.2])), (a9, .inl (cC, 60, .inl f9))]) (ws' := [(a0, .inr (5, [w0_0, w0_1, w0_2, w0_3, w0_4, w0_5, w0_6, .ref a8, .ref a9, .int g0_9, w0_10, .int g0_11, .int r28.2])), (a8, .inl (cI, 192, .inl r25.2.2)), (a9, .inl (cC, 60, .inl f9))]) (va_runV (As := [.int x5]) (rest := []) ⟨hx, hb, hml, hown, hts⟩ (k_X5_kind l D cI cZ cC cS H.size a0 a9 (w0_0) (w0_1) (w0_2) (w0_3) (w0_4) (w0_5) (w0_6) (.ref a8) g0_9 (w0_10) (.int g0_11) r25.2.1 f9 x5 r28 hcr28) (cwV 1 hts gX5_filling_X5_kind rfl rfl rfl nd_X5_kind ⟨Nat.le_of_ble_eq_true rfl, Nat.le_of_ble_eq_true rfl⟩) (PB.preV (ci := 5) (q0 := 0) hKU hP hD [0, 2] rfl rfl rfl rfl) rfl rfl hl.1 rfl (lv_room (Nat.le_of_ble_eq_true rfl)) dX5_filling_80 ⟨Nat.zero_le _, Nat.zero_le _⟩) hS hP hD hA [0, 2] rfl rfl (by first | (simp only [wset, List.set_cons_zero, List.set_cons_succ]; done) | rfl) rfl (fun H locs hP hD hS => ?_)
      refine lv_goto (tgt := 88) hx hb dX5_filling_83 (by decide) ?_
      refine lv_istore (lv' := [(5, .int r28.1), (4, .int x26), (3, .int r25.1), (0, .ref a0), (1, .int x1), (2, .int x5)]) hx hb dX5_filling_88 hl (by decide) rfl (fun ls hl => ?_)
      refine lv_iload hx hb dX5_filling_90 (lv_at hl 0 rfl) ?_
      refine lv_bipush (v := (-6)) hx hb dX5_filling_92 (by decide) ?_
      refine lv_icmp_eq (tgt := 101) hx hb dX5_filling_94 (by decide) (fun c29 => ?_) (fun c29 => ?_)
      · have hsp := itT hsp c29
        refine lv_iconst (v := 0) hx hb dX5_filling_101 (by decide) ?_
        refine lv_istore_n (lv' := [(3, .int 0), (5, .int r28.1), (4, .int x26), (0, .ref a0), (1, .int x1), (2, .int x5)]) hx hb dX5_filling_102 rfl hl (by decide) rfl (fun ls hl => ?_)
        refine lv_iload_n hx hb dX5_filling_103 rfl (lv_at hl 0 rfl) ?_
        refine lv_if_eq (tgt := 123) hx hb dX5_filling_104 (by decide) (fun _ => ?_) (fun hc => absurd hc (by decide))
        refine lv_goto (tgt := 36) hx hb dX5_filling_123 (by decide) ?_
        exact ih2 (x5, 0, r28.2, r25.2.2) _ _ hsp hP hD hS _ (lv_sub hl [3, 4, 5, 0] rfl)
      have hsp := itF hsp c29
      refine lv_iconst (v := 1) hx hb dX5_filling_97 (by decide) ?_
      refine lv_goto (tgt := 102) hx hb dX5_filling_98 (by decide) ?_
      refine lv_istore_n (lv' := [(3, .int 1), (5, .int r28.1), (4, .int x26), (0, .ref a0), (1, .int x1), (2, .int x5)]) hx hb dX5_filling_102 rfl hl (by decide) rfl (fun ls hl => ?_)
      refine lv_iload_n hx hb dX5_filling_103 rfl (lv_at hl 0 rfl) ?_
      refine lv_if_eq (tgt := 123) hx hb dX5_filling_104 (by decide) (fun hc => absurd hc (by decide)) (fun _ => ?_)
      refine lv_aload_n hx hb dX5_filling_107 rfl (lv_at hl 3 rfl) ?_
      refine va_get (D := D) (ci := 5) (v := .ref a8) (C := RX5) (T := TX5) (N := 13) hx hb hts hi_X5 hown hK hP 0 rfl rfl 7 (by decide) hf_32 (fun _ h9 => h9) rfl dX5_filling_108 ?_
      refine lv_iload_n hx hb dX5_filling_111 rfl (lv_at hl 4 rfl) ?_
      refine lv_iconst (v := 2) hx hb dX5_filling_112 (by decide) ?_
      refine lv_iadd hx hb dX5_filling_113 ?_
      refine lv_iload hx hb dX5_filling_114 (lv_at hl 1 rfl) ?_
      refine lv_iadd hx hb dX5_filling_116 ?_
      refine lv_iload hx hb dX5_filling_117 (lv_at hl 2 rfl) ?_
      obtain ⟨y30, ey30, hny30, hsp⟩ := stoE hsp
      refine r_iast (ws' := [(a0, .inr (5, [w0_0, w0_1, w0_2, w0_3, w0_4, w0_5, w0_6, .ref a8, .ref a9, .int g0_9, w0_10, .int g0_11, .int r28.2])), (a8, .inl (cI, 192, .inl y30)), (a9, .inl (cC, 60, .inl f9))]) hx hb hK hP hD hS 1 0 rfl rfl ey30 hny30 rfl dX5_filling_119 (fun H locs hP hD hS => ?_)
      refine lv_iload hx hb dX5_filling_120 (lv_at hl 1 rfl) ?_
      refine lv_istore_n (lv' := [(2, .int r28.1), (3, .int 1), (5, .int r28.1), (4, .int x26), (0, .ref a0), (1, .int x1)]) hx hb dX5_filling_122 rfl hl (by decide) rfl (fun ls hl => ?_)
      refine lv_goto (tgt := 36) hx hb dX5_filling_123 (by decide) ?_
      exact ih2 (r28.1, 1, r28.2, y30) _ _ hsp hP hD hS _ (lv_sub hl [4, 5, 0, 1] rfl)
  have hl := lv_sub hl (l' := [(0, .ref a0), (1, .int x1), (2, .int 0)]) [2, 1, 0] rfl
  refine lp_rule (D := D) (F := s_X5_filling_L1 x1 (s_X5_filling_X1 g0_9 g0_11 f9 x1 g0_12)) (P := fun (tv : Int32 × (Nat → Int32)) => [(a0, .inr (5, [w0_0, w0_1, w0_2, w0_3, w0_4, w0_5, w0_6, .ref a8, .ref a9, .int g0_9, w0_10, .int g0_11, .int g0_12])), (a8, .inl (cI, 192, .inl tv.2)), (a9, .inl (cC, 60, .inl f9))]) (L := fun (tv : Int32 × (Nat → Int32)) => [(0, .ref a0), (1, .int x1), (2, .int tv.1)]) (nL := 6) (res := res) (A := A) (H0 := s.heap) (fun _ => rfl) ?_ 1000 (0, f8) _ _ hsp hP hD hS _ hl
  · intro n1 ih1 tv H locs hsp hP hD hS ls hl
    obtain ⟨x2, y3⟩ := tv
    have hsp : s_X5_filling_B1  x1 (s_X5_filling_X1 g0_9 g0_11 f9 x1 g0_12) (s_X5_filling_L1 x1 (s_X5_filling_X1 g0_9 g0_11 f9 x1 g0_12) n1) x2 y3 = some res := hsp
    unfold s_X5_filling_B1 at hsp
    have hP : va_P D vwCl [(a0, .inr (5, [w0_0, w0_1, w0_2, w0_3, w0_4, w0_5, w0_6, .ref a8, .ref a9, .int g0_9, w0_10, .int g0_11, .int g0_12])), (a8, .inl (cI, 192, .inl y3)), (a9, .inl (cC, 60, .inl f9))] H := hP
    have hD : va_D A [(a0, .inr (5, [w0_0, w0_1, w0_2, w0_3, w0_4, w0_5, w0_6, .ref a8, .ref a9, .int g0_9, w0_10, .int g0_11, .int g0_12])), (a8, .inl (cI, 192, .inl y3)), (a9, .inl (cC, 60, .inl f9))] := hD
    have hl : lv_has ls 6 [(0, .ref a0), (1, .int x1), (2, .int x2)] := hl
    refine lv_iload_n hx hb dX5_filling_10 rfl (lv_at hl 2 rfl) ?_
    refine lv_iconst (v := 4) hx hb dX5_filling_11 (by decide) ?_
    refine lv_icmp_ge (tgt := 32) hx hb dX5_filling_12 (by decide) (fun c31 => ?_) (fun c31 => ?_)
    · have hsp := itT hsp c31
      exact hx1 y3 _ _ hsp hP hD hS _ (lv_sub hl [0, 1] rfl)
    have hsp := itF hsp c31
    refine lv_aload_n hx hb dX5_filling_15 rfl (lv_at hl 0 rfl) ?_
    refine va_get (D := D) (ci := 5) (v := .ref a8) (C := RX5) (T := TX5) (N := 13) hx hb hts hi_X5 hown hK hP 0 rfl rfl 7 (by decide) hf_32 (fun _ h9 => h9) rfl dX5_filling_16 ?_
    refine lv_iload_n hx hb dX5_filling_19 rfl (lv_at hl 1 rfl) ?_
    refine lv_iconst (v := 2) hx hb dX5_filling_20 (by decide) ?_
    refine lv_iadd hx hb dX5_filling_21 ?_
    refine lv_iload_n hx hb dX5_filling_22 rfl (lv_at hl 2 rfl) ?_
    refine lv_iadd hx hb dX5_filling_23 ?_
    refine lv_iconst (v := 0) hx hb dX5_filling_24 (by decide) ?_
    obtain ⟨y32, ey32, hny32, hsp⟩ := stoE hsp
    refine r_iast (ws' := [(a0, .inr (5, [w0_0, w0_1, w0_2, w0_3, w0_4, w0_5, w0_6, .ref a8, .ref a9, .int g0_9, w0_10, .int g0_11, .int g0_12])), (a8, .inl (cI, 192, .inl y32)), (a9, .inl (cC, 60, .inl f9))]) hx hb hK hP hD hS 1 0 rfl rfl ey32 hny32 rfl dX5_filling_25 (fun H locs hP hD hS => ?_)
    obtain ⟨x33, ex33, hsp⟩ := nmE hsp
    refine lv_iinc (k := 2) (v := x33) (lv' := [(2, .int x33), (0, .ref a0), (1, .int x1)]) hx hb dX5_filling_26 hl rfl (by rw [ex33]; rfl) (by decide) rfl (fun ls hl => ?_)
    refine lv_goto (tgt := 10) hx hb dX5_filling_29 (by decide) ?_
    exact ih1 (x33, y32) _ _ hsp hP hD hS _ (lv_sub hl [1, 2, 0] rfl)

theorem nd_X5_ofPot : yX5_ofPot.cls = RX5 ∧ yX5_ofPot.cls ≠ "java/lang/invoke/MethodHandle" ∧ yX5_ofPot.cls ≠ "java/lang/invoke/VarHandle" ∧ (parseMethodDescriptor yX5_ofPot.desc).map (fun d => d.parameters.length) = some 0 := by decide +kernel
set_option maxHeartbeats 8000000 in
set_option maxRecDepth 100000 in
theorem k_X5_ofPot (l : Launch) (D : va_G) (cI cZ cC cS : ClassId) (sz : Nat) (a0 a8 a9 : Nat) (w0_0 : Value) (w0_1 : Value) (w0_2 : Value) (w0_3 : Value) (w0_4 : Value) (w0_5 : Value) (w0_6 : Value) (g0_9 : Int32) (w0_10 : Value) (g0_11 : Int32) (g0_12 : Int32) (f8 : Nat → Int32) (f9 : Nat → Int32) (res : Int32 × Int32 × (Nat → Int32)) (hsp : s_X5_ofPot g0_9 g0_11 g0_12 f8 f9 = some res) : Met l yX5_ofPot wsX5_ofPot ({ frames := 4, cells := 0, slots := 0, locals := 93 }) (va_Pc [.ref a0] (PB D cI cZ cC cS [(a0, .inr (5, [w0_0, w0_1, w0_2, w0_3, w0_4, w0_5, w0_6, .ref a8, .ref a9, .int g0_9, w0_10, .int g0_11, .int g0_12])), (a8, .inl (cI, 192, .inl f8)), (a9, .inl (cC, 60, .inl f9))] sz)) (va_Qi (fun r (_ : Unit) => r = res.1 ∧ (res.1 = 0 ∨ res.1 = 1)) (fun _ t => va_P D vwCl [(a0, .inr (5, [w0_0, w0_1, w0_2, w0_3, w0_4, w0_5, w0_6, .ref a8, .ref a9, .int g0_9, w0_10, .int g0_11, .int res.2.1])), (a8, .inl (cI, 192, .inl res.2.2)), (a9, .inl (cC, 60, .inl f9))] t.heap) (va_A [(a0, .inr (5, [w0_0, w0_1, w0_2, w0_3, w0_4, w0_5, w0_6, .ref a8, .ref a9, .int g0_9, w0_10, .int g0_11, .int g0_12])), (a8, .inl (cI, 192, .inl f8)), (a9, .inl (cC, 60, .inl f9))] sz)) 0 0 (va_A [(a0, .inr (5, [w0_0, w0_1, w0_2, w0_3, w0_4, w0_5, w0_6, .ref a8, .ref a9, .int g0_9, w0_10, .int g0_11, .int g0_12])), (a8, .inl (cI, 192, .inl f8)), (a9, .inl (cC, 60, .inl f9))] sz) := by
  refine Met.ofW (cc := cX5_ofPot) (maxL := 3) (ret := (some .boolean)) (by decide) rfl ?_
  intro p e s m args below meth c s₁ B hml hv
  obtain ⟨rfl, hsz, hP, hD0, hKU⟩ := hv
  have hx := B.exec
  have hb := B.bytes
  have hr := B.returns
  have hts := atoms_spec (ws := wsX5_ofPot) B.pre
  have hown : s.vm.findClass RX5 = some m.cls := findClass_of_methodNamed B.named
  have hlocks := B.notSynchronized
  have hK := hKU.1
  have hf_133 := hts (.fieldLink RX5 133 "ThinnedPotsModel" "works" "I") (by decide +kernel)
  have hi_X5 : ∀ w ∈ u_ws RX5 TX5 13, w ∈ wsX5_ofPot := by decide +kernel
  have hf_32 := hts (.fieldLink RX5 32 "ThinnedPotsModel" "read" "[I") (by decide +kernel)
  subst hsz
  have hD := hD0.self (sz := s.heap.size)
  generalize hAe : va_A [(a0, .inr (5, [w0_0, w0_1, w0_2, w0_3, w0_4, w0_5, w0_6, .ref a8, .ref a9, .int g0_9, w0_10, .int g0_11, .int g0_12])), (a8, .inl (cI, 192, .inl f8)), (a9, .inl (cC, 60, .inl f9))] s.heap.size = A at hD ⊢
  have hA : ∀ q : Nat, s.heap.size ≤ q → A q := fun q h => by rw [← hAe]; exact Or.inr h
  have hP : va_P D vwCl [(a0, .inr (5, [w0_0, w0_1, w0_2, w0_3, w0_4, w0_5, w0_6, .ref a8, .ref a9, .int g0_9, w0_10, .int g0_11, .int g0_12])), (a8, .inl (cI, 192, .inl f8)), (a9, .inl (cC, 60, .inl f9))] s.heap := hP
  generalize hHe : s.heap = H at hP ⊢
  have hS : va_S A s.heap H [] := by rw [hHe]; exact va_S.rf
  have hl := lv_entry ([.ref a0]) (n := 3) (Nat.le_of_ble_eq_true rfl)
  rw [lg_entry_eq]
  generalize (lg_sl ([.ref a0]) ++ List.replicate (3 - (lg_sl ([.ref a0])).length) Slot.unset).toArray = ls at hl ⊢
  have hl : lv_has ls 3 [(0, .ref a0)] := hl
  unfold s_X5_ofPot at hsp
  refine lv_bipush (v := 6) hx hb dX5_ofPot_0 (by decide) ?_
  refine lv_aload_n hx hb dX5_ofPot_2 rfl (lv_at hl 0 rfl) ?_
  refine va_get (D := D) (ci := 5) (v := .int g0_11) (C := RX5) (T := TX5) (N := 13) hx hb hts hi_X5 hown hK hP 0 rfl rfl 11 (by decide) hf_133 (fun _ h9 => h9) rfl dX5_ofPot_3 ?_
  refine lv_imul hx hb dX5_ofPot_6 ?_
  obtain ⟨x1, ex1, hsp⟩ := nmE hsp
  refine r_top ex1 ?_
  refine lv_istore_n (lv' := [(1, .int x1), (0, .ref a0)]) hx hb dX5_ofPot_7 rfl hl (by decide) rfl (fun ls hl => ?_)
  refine lv_aload_n hx hb dX5_ofPot_8 rfl (lv_at hl 1 rfl) ?_
  refine lv_bipush (v := 43) hx hb dX5_ofPot_9 (by decide) ?_
  obtain ⟨r2, hcr2, hsp⟩ := clE hsp
  refine call_z (w1 := [(a0, .inr (5, [w0_0, w0_1, w0_2, w0_3, w0_4, w0_5, w0_6, .ref a8, .ref a9, .int g0_9, w0_10, .int g0_11, .int r2.2])), (a9, .inl (cC, 60, .inl f9))]) (ws' := [(a0, .inr (5, [w0_0, w0_1, w0_2, w0_3, w0_4, w0_5, w0_6, .ref a8, .ref a9, .int g0_9, w0_10, .int g0_11, .int r2.2])), (a8, .inl (cI, 192, .inl f8)), (a9, .inl (cC, 60, .inl f9))]) (va_runV (As := [.int 43]) (rest := []) ⟨hx, hb, hml, hown, hts⟩ (k_X5_accepts l D cI cZ cC cS H.size a0 a9 (w0_0) (w0_1) (w0_2) (w0_3) (w0_4) (w0_5) (w0_6) (.ref a8) g0_9 (w0_10) (.int g0_11) g0_12 f9 43 r2 hcr2) (cwV 1 hts gX5_ofPot_X5_accepts rfl rfl rfl nd_X5_accepts ⟨Nat.le_of_ble_eq_true rfl, Nat.le_of_ble_eq_true rfl⟩) (PB.preV (ci := 5) (q0 := 0) hKU hP hD [0, 2] rfl rfl rfl rfl) rfl rfl hl.1 rfl (lv_room (Nat.le_of_ble_eq_true rfl)) dX5_ofPot_11 ⟨Nat.zero_le _, Nat.zero_le _⟩) hS hP hD hA [0, 2] rfl rfl (by first | (simp only [wset, List.set_cons_zero, List.set_cons_succ]; done) | rfl) rfl (fun H locs hP hD hS hzr2 => ?_)
  refine lv_if_eq (tgt := 22) hx hb dX5_ofPot_14 (by decide) (fun c3 => ?_) (fun c3 => ?_)
  · have hsp := itT hsp c3
    refine lv_aload_n hx hb dX5_ofPot_22 rfl (lv_at hl 1 rfl) ?_
    refine lv_bipush (v := 33) hx hb dX5_ofPot_23 (by decide) ?_
    obtain ⟨r4, hcr4, hsp⟩ := clE hsp
    refine call_z (w1 := [(a0, .inr (5, [w0_0, w0_1, w0_2, w0_3, w0_4, w0_5, w0_6, .ref a8, .ref a9, .int g0_9, w0_10, .int g0_11, .int r4.2])), (a9, .inl (cC, 60, .inl f9))]) (ws' := [(a0, .inr (5, [w0_0, w0_1, w0_2, w0_3, w0_4, w0_5, w0_6, .ref a8, .ref a9, .int g0_9, w0_10, .int g0_11, .int r4.2])), (a8, .inl (cI, 192, .inl f8)), (a9, .inl (cC, 60, .inl f9))]) (va_runV (As := [.int 33]) (rest := []) ⟨hx, hb, hml, hown, hts⟩ (k_X5_accepts l D cI cZ cC cS H.size a0 a9 (w0_0) (w0_1) (w0_2) (w0_3) (w0_4) (w0_5) (w0_6) (.ref a8) g0_9 (w0_10) (.int g0_11) r2.2 f9 33 r4 hcr4) (cwV 1 hts gX5_ofPot_X5_accepts rfl rfl rfl nd_X5_accepts ⟨Nat.le_of_ble_eq_true rfl, Nat.le_of_ble_eq_true rfl⟩) (PB.preV (ci := 5) (q0 := 0) hKU hP hD [0, 2] rfl rfl rfl rfl) rfl rfl hl.1 rfl (lv_room (Nat.le_of_ble_eq_true rfl)) dX5_ofPot_25 ⟨Nat.zero_le _, Nat.zero_le _⟩) hS hP hD hA [0, 2] rfl rfl (by first | (simp only [wset, List.set_cons_zero, List.set_cons_succ]; done) | rfl) rfl (fun H locs hP hD hS hzr4 => ?_)
    refine lv_if_eq (tgt := 41) hx hb dX5_ofPot_28 (by decide) (fun c5 => ?_) (fun c5 => ?_)
    · have hsp := itT hsp c5
      refine lv_aload_n hx hb dX5_ofPot_41 rfl (lv_at hl 1 rfl) ?_
      refine lv_bipush (v := 62) hx hb dX5_ofPot_42 (by decide) ?_
      obtain ⟨r6, hcr6, hsp⟩ := clE hsp
      refine call_z (w1 := [(a0, .inr (5, [w0_0, w0_1, w0_2, w0_3, w0_4, w0_5, w0_6, .ref a8, .ref a9, .int g0_9, w0_10, .int g0_11, .int r6.2])), (a9, .inl (cC, 60, .inl f9))]) (ws' := [(a0, .inr (5, [w0_0, w0_1, w0_2, w0_3, w0_4, w0_5, w0_6, .ref a8, .ref a9, .int g0_9, w0_10, .int g0_11, .int r6.2])), (a8, .inl (cI, 192, .inl f8)), (a9, .inl (cC, 60, .inl f9))]) (va_runV (As := [.int 62]) (rest := []) ⟨hx, hb, hml, hown, hts⟩ (k_X5_accepts l D cI cZ cC cS H.size a0 a9 (w0_0) (w0_1) (w0_2) (w0_3) (w0_4) (w0_5) (w0_6) (.ref a8) g0_9 (w0_10) (.int g0_11) r4.2 f9 62 r6 hcr6) (cwV 1 hts gX5_ofPot_X5_accepts rfl rfl rfl nd_X5_accepts ⟨Nat.le_of_ble_eq_true rfl, Nat.le_of_ble_eq_true rfl⟩) (PB.preV (ci := 5) (q0 := 0) hKU hP hD [0, 2] rfl rfl rfl rfl) rfl rfl hl.1 rfl (lv_room (Nat.le_of_ble_eq_true rfl)) dX5_ofPot_44 ⟨Nat.zero_le _, Nat.zero_le _⟩) hS hP hD hA [0, 2] rfl rfl (by first | (simp only [wset, List.set_cons_zero, List.set_cons_succ]; done) | rfl) rfl (fun H locs hP hD hS hzr6 => ?_)
      refine lv_if_eq (tgt := 83) hx hb dX5_ofPot_47 (by decide) (fun c7 => ?_) (fun c7 => ?_)
      · have hsp := itT hsp c7
        refine lv_iconst (v := 0) hx hb dX5_ofPot_83 (by decide) ?_
        refine lv_istore_n (lv' := [(2, .int 0), (1, .int x1), (0, .ref a0)]) hx hb dX5_ofPot_84 rfl hl (by decide) rfl (fun ls hl => ?_)
        refine lv_aload_n hx hb dX5_ofPot_85 rfl (lv_at hl 2 rfl) ?_
        refine va_get (D := D) (ci := 5) (v := .ref a8) (C := RX5) (T := TX5) (N := 13) hx hb hts hi_X5 hown hK hP 0 rfl rfl 7 (by decide) hf_32 (fun _ h9 => h9) rfl dX5_ofPot_86 ?_
        refine lv_iload_n hx hb dX5_ofPot_89 rfl (lv_at hl 1 rfl) ?_
        refine lv_bipush (v := 62) hx hb dX5_ofPot_90 (by decide) ?_
        obtain ⟨y8, ey8, hny8, hsp⟩ := stoE hsp
        refine r_iast (ws' := [(a0, .inr (5, [w0_0, w0_1, w0_2, w0_3, w0_4, w0_5, w0_6, .ref a8, .ref a9, .int g0_9, w0_10, .int g0_11, .int r6.2])), (a8, .inl (cI, 192, .inl y8)), (a9, .inl (cC, 60, .inl f9))]) hx hb hK hP hD hS 1 0 rfl rfl ey8 hny8 rfl dX5_ofPot_92 (fun H locs hP hD hS => ?_)
        refine lv_iload_n hx hb dX5_ofPot_93 rfl (lv_at hl 0 rfl) ?_
        have hres := Option.some.inj hsp
        subst hres
        exact W.zret (v := 0) hx hb hr (zE (Or.inl rfl)) (fun t ht hW => ⟨⟨0, (), rfl, ⟨rfl, (Or.inl rfl)⟩, P_at ht hP⟩, hS.F ht⟩) hS.2.2 dX5_ofPot_94
      have hsp := itF hsp c7
      refine lv_aload_n hx hb dX5_ofPot_50 rfl (lv_at hl 1 rfl) ?_
      refine lv_iconst (v := 2) hx hb dX5_ofPot_51 (by decide) ?_
      refine lv_bipush (v := 48) hx hb dX5_ofPot_52 (by decide) ?_
      refine lv_bipush (v := 55) hx hb dX5_ofPot_54 (by decide) ?_
      obtain ⟨r9, hcr9, hsp⟩ := clE hsp
      refine call_z (w1 := [(a0, .inr (5, [w0_0, w0_1, w0_2, w0_3, w0_4, w0_5, w0_6, .ref a8, .ref a9, .int g0_9, w0_10, .int g0_11, .int r9.2.1])), (a8, .inl (cI, 192, .inl r9.2.2)), (a9, .inl (cC, 60, .inl f9))]) (ws' := [(a0, .inr (5, [w0_0, w0_1, w0_2, w0_3, w0_4, w0_5, w0_6, .ref a8, .ref a9, .int g0_9, w0_10, .int g0_11, .int r9.2.1])), (a8, .inl (cI, 192, .inl r9.2.2)), (a9, .inl (cC, 60, .inl f9))]) (va_runV (As := [.int 2, .int 48, .int 55]) (rest := []) ⟨hx, hb, hml, hown, hts⟩ (k_X5_digit l D cI cZ cC cS H.size a0 a8 a9 (w0_0) (w0_1) (w0_2) (w0_3) (w0_4) (w0_5) (w0_6) g0_9 (w0_10) g0_11 r6.2 f8 f9 2 48 55 r9 hcr9) (cwV 3 hts gX5_ofPot_X5_digit rfl rfl rfl nd_X5_digit ⟨Nat.le_of_ble_eq_true rfl, Nat.le_of_ble_eq_true rfl⟩) (PB.preV (ci := 5) (q0 := 0) hKU hP hD [0, 1, 2] rfl rfl rfl rfl) rfl rfl hl.1 rfl (lv_room (Nat.le_of_ble_eq_true rfl)) dX5_ofPot_56 ⟨Nat.zero_le _, Nat.zero_le _⟩) hS hP hD hA [0, 1, 2] rfl rfl (by first | (simp only [wset, List.set_cons_zero, List.set_cons_succ]; done) | rfl) rfl (fun H locs hP hD hS hzr9 => ?_)
      refine lv_if_eq (tgt := 83) hx hb dX5_ofPot_59 (by decide) (fun c10 => ?_) (fun c10 => ?_)
      · have hsp := itT hsp c10
        refine lv_iconst (v := 0) hx hb dX5_ofPot_83 (by decide) ?_
        refine lv_istore_n (lv' := [(2, .int 0), (1, .int x1), (0, .ref a0)]) hx hb dX5_ofPot_84 rfl hl (by decide) rfl (fun ls hl => ?_)
        refine lv_aload_n hx hb dX5_ofPot_85 rfl (lv_at hl 2 rfl) ?_
        refine va_get (D := D) (ci := 5) (v := .ref a8) (C := RX5) (T := TX5) (N := 13) hx hb hts hi_X5 hown hK hP 0 rfl rfl 7 (by decide) hf_32 (fun _ h9 => h9) rfl dX5_ofPot_86 ?_
        refine lv_iload_n hx hb dX5_ofPot_89 rfl (lv_at hl 1 rfl) ?_
        refine lv_bipush (v := 62) hx hb dX5_ofPot_90 (by decide) ?_
        obtain ⟨y11, ey11, hny11, hsp⟩ := stoE hsp
        refine r_iast (ws' := [(a0, .inr (5, [w0_0, w0_1, w0_2, w0_3, w0_4, w0_5, w0_6, .ref a8, .ref a9, .int g0_9, w0_10, .int g0_11, .int r9.2.1])), (a8, .inl (cI, 192, .inl y11)), (a9, .inl (cC, 60, .inl f9))]) hx hb hK hP hD hS 1 0 rfl rfl ey11 hny11 rfl dX5_ofPot_92 (fun H locs hP hD hS => ?_)
        refine lv_iload_n hx hb dX5_ofPot_93 rfl (lv_at hl 0 rfl) ?_
        have hres := Option.some.inj hsp
        subst hres
        exact W.zret (v := 0) hx hb hr (zE (Or.inl rfl)) (fun t ht hW => ⟨⟨0, (), rfl, ⟨rfl, (Or.inl rfl)⟩, P_at ht hP⟩, hS.F ht⟩) hS.2.2 dX5_ofPot_94
      have hsp := itF hsp c10
      refine lv_aload_n hx hb dX5_ofPot_62 rfl (lv_at hl 1 rfl) ?_
      refine lv_bipush (v := 58) hx hb dX5_ofPot_63 (by decide) ?_
      obtain ⟨r12, hcr12, hsp⟩ := clE hsp
      refine call_z (w1 := [(a0, .inr (5, [w0_0, w0_1, w0_2, w0_3, w0_4, w0_5, w0_6, .ref a8, .ref a9, .int g0_9, w0_10, .int g0_11, .int r12.2])), (a9, .inl (cC, 60, .inl f9))]) (ws' := [(a0, .inr (5, [w0_0, w0_1, w0_2, w0_3, w0_4, w0_5, w0_6, .ref a8, .ref a9, .int g0_9, w0_10, .int g0_11, .int r12.2])), (a8, .inl (cI, 192, .inl r9.2.2)), (a9, .inl (cC, 60, .inl f9))]) (va_runV (As := [.int 58]) (rest := []) ⟨hx, hb, hml, hown, hts⟩ (k_X5_accepts l D cI cZ cC cS H.size a0 a9 (w0_0) (w0_1) (w0_2) (w0_3) (w0_4) (w0_5) (w0_6) (.ref a8) g0_9 (w0_10) (.int g0_11) r9.2.1 f9 58 r12 hcr12) (cwV 1 hts gX5_ofPot_X5_accepts rfl rfl rfl nd_X5_accepts ⟨Nat.le_of_ble_eq_true rfl, Nat.le_of_ble_eq_true rfl⟩) (PB.preV (ci := 5) (q0 := 0) hKU hP hD [0, 2] rfl rfl rfl rfl) rfl rfl hl.1 rfl (lv_room (Nat.le_of_ble_eq_true rfl)) dX5_ofPot_65 ⟨Nat.zero_le _, Nat.zero_le _⟩) hS hP hD hA [0, 2] rfl rfl (by first | (simp only [wset, List.set_cons_zero, List.set_cons_succ]; done) | rfl) rfl (fun H locs hP hD hS hzr12 => ?_)
      refine lv_if_eq (tgt := 83) hx hb dX5_ofPot_68 (by decide) (fun c13 => ?_) (fun c13 => ?_)
      · have hsp := itT hsp c13
        refine lv_iconst (v := 0) hx hb dX5_ofPot_83 (by decide) ?_
        refine lv_istore_n (lv' := [(2, .int 0), (1, .int x1), (0, .ref a0)]) hx hb dX5_ofPot_84 rfl hl (by decide) rfl (fun ls hl => ?_)
        refine lv_aload_n hx hb dX5_ofPot_85 rfl (lv_at hl 2 rfl) ?_
        refine va_get (D := D) (ci := 5) (v := .ref a8) (C := RX5) (T := TX5) (N := 13) hx hb hts hi_X5 hown hK hP 0 rfl rfl 7 (by decide) hf_32 (fun _ h9 => h9) rfl dX5_ofPot_86 ?_
        refine lv_iload_n hx hb dX5_ofPot_89 rfl (lv_at hl 1 rfl) ?_
        refine lv_bipush (v := 62) hx hb dX5_ofPot_90 (by decide) ?_
        obtain ⟨y14, ey14, hny14, hsp⟩ := stoE hsp
        refine r_iast (ws' := [(a0, .inr (5, [w0_0, w0_1, w0_2, w0_3, w0_4, w0_5, w0_6, .ref a8, .ref a9, .int g0_9, w0_10, .int g0_11, .int r12.2])), (a8, .inl (cI, 192, .inl y14)), (a9, .inl (cC, 60, .inl f9))]) hx hb hK hP hD hS 1 0 rfl rfl ey14 hny14 rfl dX5_ofPot_92 (fun H locs hP hD hS => ?_)
        refine lv_iload_n hx hb dX5_ofPot_93 rfl (lv_at hl 0 rfl) ?_
        have hres := Option.some.inj hsp
        subst hres
        exact W.zret (v := 0) hx hb hr (zE (Or.inl rfl)) (fun t ht hW => ⟨⟨0, (), rfl, ⟨rfl, (Or.inl rfl)⟩, P_at ht hP⟩, hS.F ht⟩) hS.2.2 dX5_ofPot_94
      have hsp := itF hsp c13
      refine lv_aload_n hx hb dX5_ofPot_71 rfl (lv_at hl 1 rfl) ?_
      refine lv_iconst (v := 3) hx hb dX5_ofPot_72 (by decide) ?_
      obtain ⟨r15, hcr15, hsp⟩ := clE hsp
      refine call_z (w1 := [(a0, .inr (5, [w0_0, w0_1, w0_2, w0_3, w0_4, w0_5, w0_6, .ref a8, .ref a9, .int g0_9, w0_10, .int g0_11, .int r15.2.1])), (a8, .inl (cI, 192, .inl r15.2.2)), (a9, .inl (cC, 60, .inl f9))]) (ws' := [(a0, .inr (5, [w0_0, w0_1, w0_2, w0_3, w0_4, w0_5, w0_6, .ref a8, .ref a9, .int g0_9, w0_10, .int g0_11, .int r15.2.1])), (a8, .inl (cI, 192, .inl r15.2.2)), (a9, .inl (cC, 60, .inl f9))]) (va_runV (As := [.int 3]) (rest := []) ⟨hx, hb, hml, hown, hts⟩ (k_X5_number l D cI cZ cC cS H.size a0 a8 a9 (w0_0) (w0_1) (w0_2) (w0_3) (w0_4) (w0_5) (w0_6) g0_9 (w0_10) g0_11 r12.2 r9.2.2 f9 3 r15 hcr15) (cwV 1 hts gX5_ofPot_X5_number rfl rfl rfl nd_X5_number ⟨Nat.le_of_ble_eq_true rfl, Nat.le_of_ble_eq_true rfl⟩) (PB.preV (ci := 5) (q0 := 0) hKU hP hD [0, 1, 2] rfl rfl rfl rfl) rfl rfl hl.1 rfl (lv_room (Nat.le_of_ble_eq_true rfl)) dX5_ofPot_73 ⟨Nat.zero_le _, Nat.zero_le _⟩) hS hP hD hA [0, 1, 2] rfl rfl (by first | (simp only [wset, List.set_cons_zero, List.set_cons_succ]; done) | rfl) rfl (fun H locs hP hD hS hzr15 => ?_)
      refine lv_if_eq (tgt := 83) hx hb dX5_ofPot_76 (by decide) (fun c16 => ?_) (fun c16 => ?_)
      · have hsp := itT hsp c16
        refine lv_iconst (v := 0) hx hb dX5_ofPot_83 (by decide) ?_
        refine lv_istore_n (lv' := [(2, .int 0), (1, .int x1), (0, .ref a0)]) hx hb dX5_ofPot_84 rfl hl (by decide) rfl (fun ls hl => ?_)
        refine lv_aload_n hx hb dX5_ofPot_85 rfl (lv_at hl 2 rfl) ?_
        refine va_get (D := D) (ci := 5) (v := .ref a8) (C := RX5) (T := TX5) (N := 13) hx hb hts hi_X5 hown hK hP 0 rfl rfl 7 (by decide) hf_32 (fun _ h9 => h9) rfl dX5_ofPot_86 ?_
        refine lv_iload_n hx hb dX5_ofPot_89 rfl (lv_at hl 1 rfl) ?_
        refine lv_bipush (v := 62) hx hb dX5_ofPot_90 (by decide) ?_
        obtain ⟨y17, ey17, hny17, hsp⟩ := stoE hsp
        refine r_iast (ws' := [(a0, .inr (5, [w0_0, w0_1, w0_2, w0_3, w0_4, w0_5, w0_6, .ref a8, .ref a9, .int g0_9, w0_10, .int g0_11, .int r15.2.1])), (a8, .inl (cI, 192, .inl y17)), (a9, .inl (cC, 60, .inl f9))]) hx hb hK hP hD hS 1 0 rfl rfl ey17 hny17 rfl dX5_ofPot_92 (fun H locs hP hD hS => ?_)
        refine lv_iload_n hx hb dX5_ofPot_93 rfl (lv_at hl 0 rfl) ?_
        have hres := Option.some.inj hsp
        subst hres
        exact W.zret (v := 0) hx hb hr (zE (Or.inl rfl)) (fun t ht hW => ⟨⟨0, (), rfl, ⟨rfl, (Or.inl rfl)⟩, P_at ht hP⟩, hS.F ht⟩) hS.2.2 dX5_ofPot_94
      have hsp := itF hsp c16
      refine lv_iconst (v := 1) hx hb dX5_ofPot_79 (by decide) ?_
      refine lv_goto (tgt := 84) hx hb dX5_ofPot_80 (by decide) ?_
      refine lv_istore_n (lv' := [(2, .int 1), (1, .int x1), (0, .ref a0)]) hx hb dX5_ofPot_84 rfl hl (by decide) rfl (fun ls hl => ?_)
      refine lv_aload_n hx hb dX5_ofPot_85 rfl (lv_at hl 2 rfl) ?_
      refine va_get (D := D) (ci := 5) (v := .ref a8) (C := RX5) (T := TX5) (N := 13) hx hb hts hi_X5 hown hK hP 0 rfl rfl 7 (by decide) hf_32 (fun _ h9 => h9) rfl dX5_ofPot_86 ?_
      refine lv_iload_n hx hb dX5_ofPot_89 rfl (lv_at hl 1 rfl) ?_
      refine lv_bipush (v := 62) hx hb dX5_ofPot_90 (by decide) ?_
      obtain ⟨y18, ey18, hny18, hsp⟩ := stoE hsp
      refine r_iast (ws' := [(a0, .inr (5, [w0_0, w0_1, w0_2, w0_3, w0_4, w0_5, w0_6, .ref a8, .ref a9, .int g0_9, w0_10, .int g0_11, .int r15.2.1])), (a8, .inl (cI, 192, .inl y18)), (a9, .inl (cC, 60, .inl f9))]) hx hb hK hP hD hS 1 0 rfl rfl ey18 hny18 rfl dX5_ofPot_92 (fun H locs hP hD hS => ?_)
      refine lv_iload_n hx hb dX5_ofPot_93 rfl (lv_at hl 0 rfl) ?_
      have hres := Option.some.inj hsp
      subst hres
      exact W.zret (v := 1) hx hb hr (zE (Or.inr rfl)) (fun t ht hW => ⟨⟨1, (), rfl, ⟨rfl, (Or.inr rfl)⟩, P_at ht hP⟩, hS.F ht⟩) hS.2.2 dX5_ofPot_94
    have hsp := itF hsp c5
    refine lv_aload_n hx hb dX5_ofPot_31 rfl (lv_at hl 1 rfl) ?_
    refine va_get (D := D) (ci := 5) (v := .ref a8) (C := RX5) (T := TX5) (N := 13) hx hb hts hi_X5 hown hK hP 0 rfl rfl 7 (by decide) hf_32 (fun _ h9 => h9) rfl dX5_ofPot_32 ?_
    refine lv_iload_n hx hb dX5_ofPot_35 rfl (lv_at hl 0 rfl) ?_
    refine lv_bipush (v := 33) hx hb dX5_ofPot_36 (by decide) ?_
    obtain ⟨y19, ey19, hny19, hsp⟩ := stoE hsp
    refine r_iast (ws' := [(a0, .inr (5, [w0_0, w0_1, w0_2, w0_3, w0_4, w0_5, w0_6, .ref a8, .ref a9, .int g0_9, w0_10, .int g0_11, .int r4.2])), (a8, .inl (cI, 192, .inl y19)), (a9, .inl (cC, 60, .inl f9))]) hx hb hK hP hD hS 1 0 rfl rfl ey19 hny19 rfl dX5_ofPot_38 (fun H locs hP hD hS => ?_)
    refine lv_iconst (v := 1) hx hb dX5_ofPot_39 (by decide) ?_
    have hres := Option.some.inj hsp
    subst hres
    exact W.zret (v := 1) hx hb hr (zE (Or.inr rfl)) (fun t ht hW => ⟨⟨1, (), rfl, ⟨rfl, (Or.inr rfl)⟩, P_at ht hP⟩, hS.F ht⟩) hS.2.2 dX5_ofPot_40
  have hsp := itF hsp c3
  refine lv_aload_n hx hb dX5_ofPot_17 rfl (lv_at hl 1 rfl) ?_
  obtain ⟨r20, hcr20, hsp⟩ := clE hsp
  refine call_z (w1 := [(a0, .inr (5, [w0_0, w0_1, w0_2, w0_3, w0_4, w0_5, w0_6, .ref a8, .ref a9, .int g0_9, w0_10, .int g0_11, .int r20.2.1])), (a8, .inl (cI, 192, .inl r20.2.2)), (a9, .inl (cC, 60, .inl f9))]) (ws' := [(a0, .inr (5, [w0_0, w0_1, w0_2, w0_3, w0_4, w0_5, w0_6, .ref a8, .ref a9, .int g0_9, w0_10, .int g0_11, .int r20.2.1])), (a8, .inl (cI, 192, .inl r20.2.2)), (a9, .inl (cC, 60, .inl f9))]) (va_runV (As := []) (rest := []) ⟨hx, hb, hml, hown, hts⟩ (k_X5_filling l D cI cZ cC cS H.size a0 a8 a9 (w0_0) (w0_1) (w0_2) (w0_3) (w0_4) (w0_5) (w0_6) g0_9 (w0_10) g0_11 r2.2 f8 f9 r20 hcr20) (cwV 0 hts gX5_ofPot_X5_filling rfl rfl rfl nd_X5_filling ⟨Nat.le_of_ble_eq_true rfl, Nat.le_of_ble_eq_true rfl⟩) (PB.preV (ci := 5) (q0 := 0) hKU hP hD [0, 1, 2] rfl rfl rfl rfl) rfl rfl hl.1 rfl (lv_room (Nat.le_of_ble_eq_true rfl)) dX5_ofPot_18 ⟨Nat.zero_le _, Nat.zero_le _⟩) hS hP hD hA [0, 1, 2] rfl rfl (by first | (simp only [wset, List.set_cons_zero, List.set_cons_succ]; done) | rfl) rfl (fun H locs hP hD hS hzr20 => ?_)
  have hres := Option.some.inj hsp
  subst hres
  exact W.zret (v := r20.1) hx hb hr (zE hzr20) (fun t ht hW => ⟨⟨r20.1, (), rfl, ⟨rfl, hzr20⟩, P_at ht hP⟩, hS.F ht⟩) hS.2.2 dX5_ofPot_21

theorem nd_X5_readsWork : yX5_readsWork.cls = RX5 ∧ yX5_readsWork.cls ≠ "java/lang/invoke/MethodHandle" ∧ yX5_readsWork.cls ≠ "java/lang/invoke/VarHandle" ∧ (parseMethodDescriptor yX5_readsWork.desc).map (fun d => d.parameters.length) = some 0 := by decide +kernel
set_option maxHeartbeats 8000000 in
set_option maxRecDepth 100000 in
theorem k_X5_readsWork (l : Launch) (D : va_G) (cI cZ cC cS : ClassId) (sz : Nat) (a0 a8 a9 : Nat) (w0_0 : Value) (w0_1 : Value) (w0_2 : Value) (w0_3 : Value) (w0_4 : Value) (w0_5 : Value) (w0_6 : Value) (g0_9 : Int32) (w0_10 : Value) (g0_11 : Int32) (g0_12 : Int32) (f8 : Nat → Int32) (f9 : Nat → Int32) (res : Int32 × Int32 × Int32 × (Nat → Int32)) (hsp : s_X5_readsWork g0_9 g0_11 g0_12 f8 f9 = some res) : Met l yX5_readsWork wsX5_readsWork ({ frames := 5, cells := 0, slots := 0, locals := 115 }) (va_Pc [.ref a0] (PB D cI cZ cC cS [(a0, .inr (5, [w0_0, w0_1, w0_2, w0_3, w0_4, w0_5, w0_6, .ref a8, .ref a9, .int g0_9, w0_10, .int g0_11, .int g0_12])), (a8, .inl (cI, 192, .inl f8)), (a9, .inl (cC, 60, .inl f9))] sz)) (va_Qi (fun r (_ : Unit) => r = res.1 ∧ (res.1 = 0 ∨ res.1 = 1)) (fun _ t => va_P D vwCl [(a0, .inr (5, [w0_0, w0_1, w0_2, w0_3, w0_4, w0_5, w0_6, .ref a8, .ref a9, .int g0_9, w0_10, .int res.2.1, .int res.2.2.1])), (a8, .inl (cI, 192, .inl res.2.2.2)), (a9, .inl (cC, 60, .inl f9))] t.heap) (va_A [(a0, .inr (5, [w0_0, w0_1, w0_2, w0_3, w0_4, w0_5, w0_6, .ref a8, .ref a9, .int g0_9, w0_10, .int g0_11, .int g0_12])), (a8, .inl (cI, 192, .inl f8)), (a9, .inl (cC, 60, .inl f9))] sz)) 0 0 (va_A [(a0, .inr (5, [w0_0, w0_1, w0_2, w0_3, w0_4, w0_5, w0_6, .ref a8, .ref a9, .int g0_9, w0_10, .int g0_11, .int g0_12])), (a8, .inl (cI, 192, .inl f8)), (a9, .inl (cC, 60, .inl f9))] sz) := by
  refine Met.ofW (cc := cX5_readsWork) (maxL := 3) (ret := (some .boolean)) (by decide) rfl ?_
  intro p e s m args below meth c s₁ B hml hv
  obtain ⟨rfl, hsz, hP, hD0, hKU⟩ := hv
  have hx := B.exec
  have hb := B.bytes
  have hr := B.returns
  have hts := atoms_spec (ws := wsX5_readsWork) B.pre
  have hown : s.vm.findClass RX5 = some m.cls := findClass_of_methodNamed B.named
  have hlocks := B.notSynchronized
  have hK := hKU.1
  have hf_133 := hts (.fieldLink RX5 133 "ThinnedPotsModel" "works" "I") (by decide +kernel)
  have hi_X5 : ∀ w ∈ u_ws RX5 TX5 13, w ∈ wsX5_readsWork := by decide +kernel
  have hf_32 := hts (.fieldLink RX5 32 "ThinnedPotsModel" "read" "[I") (by decide +kernel)
  subst hsz
  have hD := hD0.self (sz := s.heap.size)
  generalize hAe : va_A [(a0, .inr (5, [w0_0, w0_1, w0_2, w0_3, w0_4, w0_5, w0_6, .ref a8, .ref a9, .int g0_9, w0_10, .int g0_11, .int g0_12])), (a8, .inl (cI, 192, .inl f8)), (a9, .inl (cC, 60, .inl f9))] s.heap.size = A at hD ⊢
  have hA : ∀ q : Nat, s.heap.size ≤ q → A q := fun q h => by rw [← hAe]; exact Or.inr h
  have hP : va_P D vwCl [(a0, .inr (5, [w0_0, w0_1, w0_2, w0_3, w0_4, w0_5, w0_6, .ref a8, .ref a9, .int g0_9, w0_10, .int g0_11, .int g0_12])), (a8, .inl (cI, 192, .inl f8)), (a9, .inl (cC, 60, .inl f9))] s.heap := hP
  generalize hHe : s.heap = H at hP ⊢
  have hS : va_S A s.heap H [] := by rw [hHe]; exact va_S.rf
  have hl := lv_entry ([.ref a0]) (n := 3) (Nat.le_of_ble_eq_true rfl)
  rw [lg_entry_eq]
  generalize (lg_sl ([.ref a0]) ++ List.replicate (3 - (lg_sl ([.ref a0])).length) Slot.unset).toArray = ls at hl ⊢
  have hl : lv_has ls 3 [(0, .ref a0)] := hl
  unfold s_X5_readsWork at hsp
  refine lv_bipush (v := 6) hx hb dX5_readsWork_0 (by decide) ?_
  refine lv_aload_n hx hb dX5_readsWork_2 rfl (lv_at hl 0 rfl) ?_
  refine va_get (D := D) (ci := 5) (v := .int g0_11) (C := RX5) (T := TX5) (N := 13) hx hb hts hi_X5 hown hK hP 0 rfl rfl 11 (by decide) hf_133 (fun _ h9 => h9) rfl dX5_readsWork_3 ?_
  refine lv_imul hx hb dX5_readsWork_6 ?_
  obtain ⟨x1, ex1, hsp⟩ := nmE hsp
  refine r_top ex1 ?_
  refine lv_istore_n (lv' := [(1, .int x1), (0, .ref a0)]) hx hb dX5_readsWork_7 rfl hl (by decide) rfl (fun ls hl => ?_)
  refine lv_aload_n hx hb dX5_readsWork_8 rfl (lv_at hl 1 rfl) ?_
  refine lv_bipush (v := 100) hx hb dX5_readsWork_9 (by decide) ?_
  obtain ⟨r2, hcr2, hsp⟩ := clE hsp
  refine call_z (w1 := [(a0, .inr (5, [w0_0, w0_1, w0_2, w0_3, w0_4, w0_5, w0_6, .ref a8, .ref a9, .int g0_9, w0_10, .int g0_11, .int r2.2])), (a9, .inl (cC, 60, .inl f9))]) (ws' := [(a0, .inr (5, [w0_0, w0_1, w0_2, w0_3, w0_4, w0_5, w0_6, .ref a8, .ref a9, .int g0_9, w0_10, .int g0_11, .int r2.2])), (a8, .inl (cI, 192, .inl f8)), (a9, .inl (cC, 60, .inl f9))]) (va_runV (As := [.int 100]) (rest := []) ⟨hx, hb, hml, hown, hts⟩ (k_X5_accepts l D cI cZ cC cS H.size a0 a9 (w0_0) (w0_1) (w0_2) (w0_3) (w0_4) (w0_5) (w0_6) (.ref a8) g0_9 (w0_10) (.int g0_11) g0_12 f9 100 r2 hcr2) (cwV 1 hts gX5_readsWork_X5_accepts rfl rfl rfl nd_X5_accepts ⟨Nat.le_of_ble_eq_true rfl, Nat.le_of_ble_eq_true rfl⟩) (PB.preV (ci := 5) (q0 := 0) hKU hP hD [0, 2] rfl rfl rfl rfl) rfl rfl hl.1 rfl (lv_room (Nat.le_of_ble_eq_true rfl)) dX5_readsWork_11 ⟨Nat.zero_le _, Nat.zero_le _⟩) hS hP hD hA [0, 2] rfl rfl (by first | (simp only [wset, List.set_cons_zero, List.set_cons_succ]; done) | rfl) rfl (fun H locs hP hD hS hzr2 => ?_)
  refine lv_if_eq (tgt := 67) hx hb dX5_readsWork_14 (by decide) (fun c3 => ?_) (fun c3 => ?_)
  · have hsp := itT hsp c3
    refine lv_aload_n hx hb dX5_readsWork_67 rfl (lv_at hl 1 rfl) ?_
    refine lv_bipush (v := 112) hx hb dX5_readsWork_68 (by decide) ?_
    obtain ⟨r4, hcr4, hsp⟩ := clE hsp
    refine call_z (w1 := [(a0, .inr (5, [w0_0, w0_1, w0_2, w0_3, w0_4, w0_5, w0_6, .ref a8, .ref a9, .int g0_9, w0_10, .int g0_11, .int r4.2])), (a9, .inl (cC, 60, .inl f9))]) (ws' := [(a0, .inr (5, [w0_0, w0_1, w0_2, w0_3, w0_4, w0_5, w0_6, .ref a8, .ref a9, .int g0_9, w0_10, .int g0_11, .int r4.2])), (a8, .inl (cI, 192, .inl f8)), (a9, .inl (cC, 60, .inl f9))]) (va_runV (As := [.int 112]) (rest := []) ⟨hx, hb, hml, hown, hts⟩ (k_X5_accepts l D cI cZ cC cS H.size a0 a9 (w0_0) (w0_1) (w0_2) (w0_3) (w0_4) (w0_5) (w0_6) (.ref a8) g0_9 (w0_10) (.int g0_11) r2.2 f9 112 r4 hcr4) (cwV 1 hts gX5_readsWork_X5_accepts rfl rfl rfl nd_X5_accepts ⟨Nat.le_of_ble_eq_true rfl, Nat.le_of_ble_eq_true rfl⟩) (PB.preV (ci := 5) (q0 := 0) hKU hP hD [0, 2] rfl rfl rfl rfl) rfl rfl hl.1 rfl (lv_room (Nat.le_of_ble_eq_true rfl)) dX5_readsWork_70 ⟨Nat.zero_le _, Nat.zero_le _⟩) hS hP hD hA [0, 2] rfl rfl (by first | (simp only [wset, List.set_cons_zero, List.set_cons_succ]; done) | rfl) rfl (fun H locs hP hD hS hzr4 => ?_)
    refine lv_if_eq (tgt := 97) hx hb dX5_readsWork_73 (by decide) (fun c5 => ?_) (fun c5 => ?_)
    · have hsp := itT hsp c5
      refine lv_aload_n hx hb dX5_readsWork_97 rfl (lv_at hl 1 rfl) ?_
      refine lv_bipush (v := 114) hx hb dX5_readsWork_98 (by decide) ?_
      obtain ⟨r6, hcr6, hsp⟩ := clE hsp
      refine call_z (w1 := [(a0, .inr (5, [w0_0, w0_1, w0_2, w0_3, w0_4, w0_5, w0_6, .ref a8, .ref a9, .int g0_9, w0_10, .int g0_11, .int r6.2])), (a9, .inl (cC, 60, .inl f9))]) (ws' := [(a0, .inr (5, [w0_0, w0_1, w0_2, w0_3, w0_4, w0_5, w0_6, .ref a8, .ref a9, .int g0_9, w0_10, .int g0_11, .int r6.2])), (a8, .inl (cI, 192, .inl f8)), (a9, .inl (cC, 60, .inl f9))]) (va_runV (As := [.int 114]) (rest := []) ⟨hx, hb, hml, hown, hts⟩ (k_X5_accepts l D cI cZ cC cS H.size a0 a9 (w0_0) (w0_1) (w0_2) (w0_3) (w0_4) (w0_5) (w0_6) (.ref a8) g0_9 (w0_10) (.int g0_11) r4.2 f9 114 r6 hcr6) (cwV 1 hts gX5_readsWork_X5_accepts rfl rfl rfl nd_X5_accepts ⟨Nat.le_of_ble_eq_true rfl, Nat.le_of_ble_eq_true rfl⟩) (PB.preV (ci := 5) (q0 := 0) hKU hP hD [0, 2] rfl rfl rfl rfl) rfl rfl hl.1 rfl (lv_room (Nat.le_of_ble_eq_true rfl)) dX5_readsWork_100 ⟨Nat.zero_le _, Nat.zero_le _⟩) hS hP hD hA [0, 2] rfl rfl (by first | (simp only [wset, List.set_cons_zero, List.set_cons_succ]; done) | rfl) rfl (fun H locs hP hD hS hzr6 => ?_)
      refine lv_if_eq (tgt := 119) hx hb dX5_readsWork_103 (by decide) (fun c7 => ?_) (fun c7 => ?_)
      · have hsp := itT hsp c7
        refine lv_aload_n hx hb dX5_readsWork_119 rfl (lv_at hl 1 rfl) ?_
        refine lv_iconst (v := 1) hx hb dX5_readsWork_120 (by decide) ?_
        refine lv_bipush (v := 48) hx hb dX5_readsWork_121 (by decide) ?_
        refine lv_bipush (v := 55) hx hb dX5_readsWork_123 (by decide) ?_
        obtain ⟨r8, hcr8, hsp⟩ := clE hsp
        refine call_z (w1 := [(a0, .inr (5, [w0_0, w0_1, w0_2, w0_3, w0_4, w0_5, w0_6, .ref a8, .ref a9, .int g0_9, w0_10, .int g0_11, .int r8.2.1])), (a8, .inl (cI, 192, .inl r8.2.2)), (a9, .inl (cC, 60, .inl f9))]) (ws' := [(a0, .inr (5, [w0_0, w0_1, w0_2, w0_3, w0_4, w0_5, w0_6, .ref a8, .ref a9, .int g0_9, w0_10, .int g0_11, .int r8.2.1])), (a8, .inl (cI, 192, .inl r8.2.2)), (a9, .inl (cC, 60, .inl f9))]) (va_runV (As := [.int 1, .int 48, .int 55]) (rest := []) ⟨hx, hb, hml, hown, hts⟩ (k_X5_digit l D cI cZ cC cS H.size a0 a8 a9 (w0_0) (w0_1) (w0_2) (w0_3) (w0_4) (w0_5) (w0_6) g0_9 (w0_10) g0_11 r6.2 f8 f9 1 48 55 r8 hcr8) (cwV 3 hts gX5_readsWork_X5_digit rfl rfl rfl nd_X5_digit ⟨Nat.le_of_ble_eq_true rfl, Nat.le_of_ble_eq_true rfl⟩) (PB.preV (ci := 5) (q0 := 0) hKU hP hD [0, 1, 2] rfl rfl rfl rfl) rfl rfl hl.1 rfl (lv_room (Nat.le_of_ble_eq_true rfl)) dX5_readsWork_125 ⟨Nat.zero_le _, Nat.zero_le _⟩) hS hP hD hA [0, 1, 2] rfl rfl (by first | (simp only [wset, List.set_cons_zero, List.set_cons_succ]; done) | rfl) rfl (fun H locs hP hD hS hzr8 => ?_)
        refine lv_if_eq (tgt := 142) hx hb dX5_readsWork_128 (by decide) (fun c9 => ?_) (fun c9 => ?_)
        · have hsp := itT hsp c9
          refine lv_iconst (v := 0) hx hb dX5_readsWork_142 (by decide) ?_
          refine lv_istore_n (lv' := [(2, .int 0), (1, .int x1), (0, .ref a0)]) hx hb dX5_readsWork_143 rfl hl (by decide) rfl (fun ls hl => ?_)
          refine lv_aload_n hx hb dX5_readsWork_144 rfl (lv_at hl 2 rfl) ?_
          refine lv_dup hx hb dX5_readsWork_145 rfl ?_
          refine va_get (D := D) (ci := 5) (v := .int g0_11) (C := RX5) (T := TX5) (N := 13) hx hb hts hi_X5 hown hK hP 0 rfl rfl 11 (by decide) hf_133 (fun _ h9 => h9) rfl dX5_readsWork_146 ?_
          refine lv_iload_n hx hb dX5_readsWork_149 rfl (lv_at hl 0 rfl) ?_
          refine lv_if_eq (tgt := 157) hx hb dX5_readsWork_150 (by decide) (fun _ => ?_) (fun hc => absurd hc (by decide))
          refine lv_iconst (v := 0) hx hb dX5_readsWork_157 (by decide) ?_
          refine lv_iadd hx hb dX5_readsWork_158 ?_
          obtain ⟨x10, ex10, hsp⟩ := nmE hsp
          refine r_top ex10 ?_
          refine va_put (D := D) (ci := 5) (v := .int x10) (ty := .int) (C := RX5) (T := TX5) (N := 13) hx hb hts hi_X5 tyX5 tyX5_ok nmX5 hown hK hP hD hS 0 rfl rfl 11 (by decide) hf_133 (fun _ h9 => h9) rfl (by decide +kernel) rfl rfl (Nat.le_of_ble_eq_true rfl) dX5_readsWork_159 (fun H locs hP hD hS => ?_)
          have hP : va_P D vwCl [(a0, .inr (5, [w0_0, w0_1, w0_2, w0_3, w0_4, w0_5, w0_6, .ref a8, .ref a9, .int g0_9, w0_10, .int x10, .int r8.2.1])), (a8, .inl (cI, 192, .inl r8.2.2)), (a9, .inl (cC, 60, .inl f9))] H := hP
          have hD : va_D A [(a0, .inr (5, [w0_0, w0_1, w0_2, w0_3, w0_4, w0_5, w0_6, .ref a8, .ref a9, .int g0_9, w0_10, .int x10, .int r8.2.1])), (a8, .inl (cI, 192, .inl r8.2.2)), (a9, .inl (cC, 60, .inl f9))] := hD
          refine lv_iload_n hx hb dX5_readsWork_162 rfl (lv_at hl 0 rfl) ?_
          have hres := Option.some.inj hsp
          subst hres
          exact W.zret (v := 0) hx hb hr (zE (Or.inl rfl)) (fun t ht hW => ⟨⟨0, (), rfl, ⟨rfl, (Or.inl rfl)⟩, P_at ht hP⟩, hS.F ht⟩) hS.2.2 dX5_readsWork_163
        have hsp := itF hsp c9
        refine lv_aload_n hx hb dX5_readsWork_131 rfl (lv_at hl 1 rfl) ?_
        obtain ⟨r11, hcr11, hsp⟩ := clE hsp
        refine call_z (w1 := [(a0, .inr (5, [w0_0, w0_1, w0_2, w0_3, w0_4, w0_5, w0_6, .ref a8, .ref a9, .int g0_9, w0_10, .int g0_11, .int r11.2.1])), (a8, .inl (cI, 192, .inl r11.2.2)), (a9, .inl (cC, 60, .inl f9))]) (ws' := [(a0, .inr (5, [w0_0, w0_1, w0_2, w0_3, w0_4, w0_5, w0_6, .ref a8, .ref a9, .int g0_9, w0_10, .int g0_11, .int r11.2.1])), (a8, .inl (cI, 192, .inl r11.2.2)), (a9, .inl (cC, 60, .inl f9))]) (va_runV (As := []) (rest := []) ⟨hx, hb, hml, hown, hts⟩ (k_X5_ofPot l D cI cZ cC cS H.size a0 a8 a9 (w0_0) (w0_1) (w0_2) (w0_3) (w0_4) (w0_5) (w0_6) g0_9 (w0_10) g0_11 r8.2.1 r8.2.2 f9 r11 hcr11) (cwV 0 hts gX5_readsWork_X5_ofPot rfl rfl rfl nd_X5_ofPot ⟨Nat.le_of_ble_eq_true rfl, Nat.le_of_ble_eq_true rfl⟩) (PB.preV (ci := 5) (q0 := 0) hKU hP hD [0, 1, 2] rfl rfl rfl rfl) rfl rfl hl.1 rfl (lv_room (Nat.le_of_ble_eq_true rfl)) dX5_readsWork_132 ⟨Nat.zero_le _, Nat.zero_le _⟩) hS hP hD hA [0, 1, 2] rfl rfl (by first | (simp only [wset, List.set_cons_zero, List.set_cons_succ]; done) | rfl) rfl (fun H locs hP hD hS hzr11 => ?_)
        refine lv_if_eq (tgt := 142) hx hb dX5_readsWork_135 (by decide) (fun c12 => ?_) (fun c12 => ?_)
        · have hsp := itT hsp c12
          refine lv_iconst (v := 0) hx hb dX5_readsWork_142 (by decide) ?_
          refine lv_istore_n (lv' := [(2, .int 0), (1, .int x1), (0, .ref a0)]) hx hb dX5_readsWork_143 rfl hl (by decide) rfl (fun ls hl => ?_)
          refine lv_aload_n hx hb dX5_readsWork_144 rfl (lv_at hl 2 rfl) ?_
          refine lv_dup hx hb dX5_readsWork_145 rfl ?_
          refine va_get (D := D) (ci := 5) (v := .int g0_11) (C := RX5) (T := TX5) (N := 13) hx hb hts hi_X5 hown hK hP 0 rfl rfl 11 (by decide) hf_133 (fun _ h9 => h9) rfl dX5_readsWork_146 ?_
          refine lv_iload_n hx hb dX5_readsWork_149 rfl (lv_at hl 0 rfl) ?_
          refine lv_if_eq (tgt := 157) hx hb dX5_readsWork_150 (by decide) (fun _ => ?_) (fun hc => absurd hc (by decide))
          refine lv_iconst (v := 0) hx hb dX5_readsWork_157 (by decide) ?_
          refine lv_iadd hx hb dX5_readsWork_158 ?_
          obtain ⟨x13, ex13, hsp⟩ := nmE hsp
          refine r_top ex13 ?_
          refine va_put (D := D) (ci := 5) (v := .int x13) (ty := .int) (C := RX5) (T := TX5) (N := 13) hx hb hts hi_X5 tyX5 tyX5_ok nmX5 hown hK hP hD hS 0 rfl rfl 11 (by decide) hf_133 (fun _ h9 => h9) rfl (by decide +kernel) rfl rfl (Nat.le_of_ble_eq_true rfl) dX5_readsWork_159 (fun H locs hP hD hS => ?_)
          have hP : va_P D vwCl [(a0, .inr (5, [w0_0, w0_1, w0_2, w0_3, w0_4, w0_5, w0_6, .ref a8, .ref a9, .int g0_9, w0_10, .int x13, .int r11.2.1])), (a8, .inl (cI, 192, .inl r11.2.2)), (a9, .inl (cC, 60, .inl f9))] H := hP
          have hD : va_D A [(a0, .inr (5, [w0_0, w0_1, w0_2, w0_3, w0_4, w0_5, w0_6, .ref a8, .ref a9, .int g0_9, w0_10, .int x13, .int r11.2.1])), (a8, .inl (cI, 192, .inl r11.2.2)), (a9, .inl (cC, 60, .inl f9))] := hD
          refine lv_iload_n hx hb dX5_readsWork_162 rfl (lv_at hl 0 rfl) ?_
          have hres := Option.some.inj hsp
          subst hres
          exact W.zret (v := 0) hx hb hr (zE (Or.inl rfl)) (fun t ht hW => ⟨⟨0, (), rfl, ⟨rfl, (Or.inl rfl)⟩, P_at ht hP⟩, hS.F ht⟩) hS.2.2 dX5_readsWork_163
        have hsp := itF hsp c12
        refine lv_iconst (v := 1) hx hb dX5_readsWork_138 (by decide) ?_
        refine lv_goto (tgt := 143) hx hb dX5_readsWork_139 (by decide) ?_
        refine lv_istore_n (lv' := [(2, .int 1), (1, .int x1), (0, .ref a0)]) hx hb dX5_readsWork_143 rfl hl (by decide) rfl (fun ls hl => ?_)
        refine lv_aload_n hx hb dX5_readsWork_144 rfl (lv_at hl 2 rfl) ?_
        refine lv_dup hx hb dX5_readsWork_145 rfl ?_
        refine va_get (D := D) (ci := 5) (v := .int g0_11) (C := RX5) (T := TX5) (N := 13) hx hb hts hi_X5 hown hK hP 0 rfl rfl 11 (by decide) hf_133 (fun _ h9 => h9) rfl dX5_readsWork_146 ?_
        refine lv_iload_n hx hb dX5_readsWork_149 rfl (lv_at hl 0 rfl) ?_
        refine lv_if_eq (tgt := 157) hx hb dX5_readsWork_150 (by decide) (fun hc => absurd hc (by decide)) (fun _ => ?_)
        refine lv_iconst (v := 1) hx hb dX5_readsWork_153 (by decide) ?_
        refine lv_goto (tgt := 158) hx hb dX5_readsWork_154 (by decide) ?_
        refine lv_iadd hx hb dX5_readsWork_158 ?_
        obtain ⟨x14, ex14, hsp⟩ := nmE hsp
        refine r_top ex14 ?_
        refine va_put (D := D) (ci := 5) (v := .int x14) (ty := .int) (C := RX5) (T := TX5) (N := 13) hx hb hts hi_X5 tyX5 tyX5_ok nmX5 hown hK hP hD hS 0 rfl rfl 11 (by decide) hf_133 (fun _ h9 => h9) rfl (by decide +kernel) rfl rfl (Nat.le_of_ble_eq_true rfl) dX5_readsWork_159 (fun H locs hP hD hS => ?_)
        have hP : va_P D vwCl [(a0, .inr (5, [w0_0, w0_1, w0_2, w0_3, w0_4, w0_5, w0_6, .ref a8, .ref a9, .int g0_9, w0_10, .int x14, .int r11.2.1])), (a8, .inl (cI, 192, .inl r11.2.2)), (a9, .inl (cC, 60, .inl f9))] H := hP
        have hD : va_D A [(a0, .inr (5, [w0_0, w0_1, w0_2, w0_3, w0_4, w0_5, w0_6, .ref a8, .ref a9, .int g0_9, w0_10, .int x14, .int r11.2.1])), (a8, .inl (cI, 192, .inl r11.2.2)), (a9, .inl (cC, 60, .inl f9))] := hD
        refine lv_iload_n hx hb dX5_readsWork_162 rfl (lv_at hl 0 rfl) ?_
        have hres := Option.some.inj hsp
        subst hres
        exact W.zret (v := 1) hx hb hr (zE (Or.inr rfl)) (fun t ht hW => ⟨⟨1, (), rfl, ⟨rfl, (Or.inr rfl)⟩, P_at ht hP⟩, hS.F ht⟩) hS.2.2 dX5_readsWork_163
      have hsp := itF hsp c7
      refine lv_iconst (v := 1) hx hb dX5_readsWork_106 (by decide) ?_
      refine lv_istore_n (lv' := [(2, .int 1), (1, .int x1), (0, .ref a0)]) hx hb dX5_readsWork_107 rfl hl (by decide) rfl (fun ls hl => ?_)
      refine lv_aload_n hx hb dX5_readsWork_108 rfl (lv_at hl 2 rfl) ?_
      refine va_get (D := D) (ci := 5) (v := .ref a8) (C := RX5) (T := TX5) (N := 13) hx hb hts hi_X5 hown hK hP 0 rfl rfl 7 (by decide) hf_32 (fun _ h9 => h9) rfl dX5_readsWork_109 ?_
      refine lv_iload_n hx hb dX5_readsWork_112 rfl (lv_at hl 1 rfl) ?_
      refine lv_bipush (v := 114) hx hb dX5_readsWork_113 (by decide) ?_
      obtain ⟨y15, ey15, hny15, hsp⟩ := stoE hsp
      refine r_iast (ws' := [(a0, .inr (5, [w0_0, w0_1, w0_2, w0_3, w0_4, w0_5, w0_6, .ref a8, .ref a9, .int g0_9, w0_10, .int g0_11, .int r6.2])), (a8, .inl (cI, 192, .inl y15)), (a9, .inl (cC, 60, .inl f9))]) hx hb hK hP hD hS 1 0 rfl rfl ey15 hny15 rfl dX5_readsWork_115 (fun H locs hP hD hS => ?_)
      refine lv_goto (tgt := 144) hx hb dX5_readsWork_116 (by decide) ?_
      refine lv_aload_n hx hb dX5_readsWork_144 rfl (lv_at hl 2 rfl) ?_
      refine lv_dup hx hb dX5_readsWork_145 rfl ?_
      refine va_get (D := D) (ci := 5) (v := .int g0_11) (C := RX5) (T := TX5) (N := 13) hx hb hts hi_X5 hown hK hP 0 rfl rfl 11 (by decide) hf_133 (fun _ h9 => h9) rfl dX5_readsWork_146 ?_
      refine lv_iload_n hx hb dX5_readsWork_149 rfl (lv_at hl 0 rfl) ?_
      refine lv_if_eq (tgt := 157) hx hb dX5_readsWork_150 (by decide) (fun hc => absurd hc (by decide)) (fun _ => ?_)
      refine lv_iconst (v := 1) hx hb dX5_readsWork_153 (by decide) ?_
      refine lv_goto (tgt := 158) hx hb dX5_readsWork_154 (by decide) ?_
      refine lv_iadd hx hb dX5_readsWork_158 ?_
      obtain ⟨x16, ex16, hsp⟩ := nmE hsp
      refine r_top ex16 ?_
      refine va_put (D := D) (ci := 5) (v := .int x16) (ty := .int) (C := RX5) (T := TX5) (N := 13) hx hb hts hi_X5 tyX5 tyX5_ok nmX5 hown hK hP hD hS 0 rfl rfl 11 (by decide) hf_133 (fun _ h9 => h9) rfl (by decide +kernel) rfl rfl (Nat.le_of_ble_eq_true rfl) dX5_readsWork_159 (fun H locs hP hD hS => ?_)
      have hP : va_P D vwCl [(a0, .inr (5, [w0_0, w0_1, w0_2, w0_3, w0_4, w0_5, w0_6, .ref a8, .ref a9, .int g0_9, w0_10, .int x16, .int r6.2])), (a8, .inl (cI, 192, .inl y15)), (a9, .inl (cC, 60, .inl f9))] H := hP
      have hD : va_D A [(a0, .inr (5, [w0_0, w0_1, w0_2, w0_3, w0_4, w0_5, w0_6, .ref a8, .ref a9, .int g0_9, w0_10, .int x16, .int r6.2])), (a8, .inl (cI, 192, .inl y15)), (a9, .inl (cC, 60, .inl f9))] := hD
      refine lv_iload_n hx hb dX5_readsWork_162 rfl (lv_at hl 0 rfl) ?_
      have hres := Option.some.inj hsp
      subst hres
      exact W.zret (v := 1) hx hb hr (zE (Or.inr rfl)) (fun t ht hW => ⟨⟨1, (), rfl, ⟨rfl, (Or.inr rfl)⟩, P_at ht hP⟩, hS.F ht⟩) hS.2.2 dX5_readsWork_163
    have hsp := itF hsp c5
    refine lv_aload_n hx hb dX5_readsWork_76 rfl (lv_at hl 1 rfl) ?_
    refine lv_iconst (v := 1) hx hb dX5_readsWork_77 (by decide) ?_
    refine lv_bipush (v := 48) hx hb dX5_readsWork_78 (by decide) ?_
    refine lv_bipush (v := 53) hx hb dX5_readsWork_80 (by decide) ?_
    obtain ⟨r17, hcr17, hsp⟩ := clE hsp
    refine call_z (w1 := [(a0, .inr (5, [w0_0, w0_1, w0_2, w0_3, w0_4, w0_5, w0_6, .ref a8, .ref a9, .int g0_9, w0_10, .int g0_11, .int r17.2.1])), (a8, .inl (cI, 192, .inl r17.2.2)), (a9, .inl (cC, 60, .inl f9))]) (ws' := [(a0, .inr (5, [w0_0, w0_1, w0_2, w0_3, w0_4, w0_5, w0_6, .ref a8, .ref a9, .int g0_9, w0_10, .int g0_11, .int r17.2.1])), (a8, .inl (cI, 192, .inl r17.2.2)), (a9, .inl (cC, 60, .inl f9))]) (va_runV (As := [.int 1, .int 48, .int 53]) (rest := []) ⟨hx, hb, hml, hown, hts⟩ (k_X5_digit l D cI cZ cC cS H.size a0 a8 a9 (w0_0) (w0_1) (w0_2) (w0_3) (w0_4) (w0_5) (w0_6) g0_9 (w0_10) g0_11 r4.2 f8 f9 1 48 53 r17 hcr17) (cwV 3 hts gX5_readsWork_X5_digit rfl rfl rfl nd_X5_digit ⟨Nat.le_of_ble_eq_true rfl, Nat.le_of_ble_eq_true rfl⟩) (PB.preV (ci := 5) (q0 := 0) hKU hP hD [0, 1, 2] rfl rfl rfl rfl) rfl rfl hl.1 rfl (lv_room (Nat.le_of_ble_eq_true rfl)) dX5_readsWork_82 ⟨Nat.zero_le _, Nat.zero_le _⟩) hS hP hD hA [0, 1, 2] rfl rfl (by first | (simp only [wset, List.set_cons_zero, List.set_cons_succ]; done) | rfl) rfl (fun H locs hP hD hS hzr17 => ?_)
    refine lv_istore_n (lv' := [(2, .int r17.1), (1, .int x1), (0, .ref a0)]) hx hb dX5_readsWork_85 rfl hl (by decide) rfl (fun ls hl => ?_)
    refine lv_aload_n hx hb dX5_readsWork_86 rfl (lv_at hl 2 rfl) ?_
    refine va_get (D := D) (ci := 5) (v := .ref a8) (C := RX5) (T := TX5) (N := 13) hx hb hts hi_X5 hown hK hP 0 rfl rfl 7 (by decide) hf_32 (fun _ h9 => h9) rfl dX5_readsWork_87 ?_
    refine lv_iload_n hx hb dX5_readsWork_90 rfl (lv_at hl 1 rfl) ?_
    refine lv_bipush (v := 112) hx hb dX5_readsWork_91 (by decide) ?_
    obtain ⟨y18, ey18, hny18, hsp⟩ := stoE hsp
    refine r_iast (ws' := [(a0, .inr (5, [w0_0, w0_1, w0_2, w0_3, w0_4, w0_5, w0_6, .ref a8, .ref a9, .int g0_9, w0_10, .int g0_11, .int r17.2.1])), (a8, .inl (cI, 192, .inl y18)), (a9, .inl (cC, 60, .inl f9))]) hx hb hK hP hD hS 1 0 rfl rfl ey18 hny18 rfl dX5_readsWork_93 (fun H locs hP hD hS => ?_)
    refine lv_goto (tgt := 144) hx hb dX5_readsWork_94 (by decide) ?_
    refine lv_aload_n hx hb dX5_readsWork_144 rfl (lv_at hl 2 rfl) ?_
    refine lv_dup hx hb dX5_readsWork_145 rfl ?_
    refine va_get (D := D) (ci := 5) (v := .int g0_11) (C := RX5) (T := TX5) (N := 13) hx hb hts hi_X5 hown hK hP 0 rfl rfl 11 (by decide) hf_133 (fun _ h9 => h9) rfl dX5_readsWork_146 ?_
    refine lv_iload_n hx hb dX5_readsWork_149 rfl (lv_at hl 0 rfl) ?_
    refine lv_if_eq (tgt := 157) hx hb dX5_readsWork_150 (by decide) (fun c19 => ?_) (fun c19 => ?_)
    · have hsp := itT hsp c19
      refine lv_iconst (v := 0) hx hb dX5_readsWork_157 (by decide) ?_
      refine lv_iadd hx hb dX5_readsWork_158 ?_
      obtain ⟨x20, ex20, hsp⟩ := nmE hsp
      refine r_top ex20 ?_
      refine va_put (D := D) (ci := 5) (v := .int x20) (ty := .int) (C := RX5) (T := TX5) (N := 13) hx hb hts hi_X5 tyX5 tyX5_ok nmX5 hown hK hP hD hS 0 rfl rfl 11 (by decide) hf_133 (fun _ h9 => h9) rfl (by decide +kernel) rfl rfl (Nat.le_of_ble_eq_true rfl) dX5_readsWork_159 (fun H locs hP hD hS => ?_)
      have hP : va_P D vwCl [(a0, .inr (5, [w0_0, w0_1, w0_2, w0_3, w0_4, w0_5, w0_6, .ref a8, .ref a9, .int g0_9, w0_10, .int x20, .int r17.2.1])), (a8, .inl (cI, 192, .inl y18)), (a9, .inl (cC, 60, .inl f9))] H := hP
      have hD : va_D A [(a0, .inr (5, [w0_0, w0_1, w0_2, w0_3, w0_4, w0_5, w0_6, .ref a8, .ref a9, .int g0_9, w0_10, .int x20, .int r17.2.1])), (a8, .inl (cI, 192, .inl y18)), (a9, .inl (cC, 60, .inl f9))] := hD
      refine lv_iload_n hx hb dX5_readsWork_162 rfl (lv_at hl 0 rfl) ?_
      have hres := Option.some.inj hsp
      subst hres
      exact W.zret (v := r17.1) hx hb hr (zE hzr17) (fun t ht hW => ⟨⟨r17.1, (), rfl, ⟨rfl, hzr17⟩, P_at ht hP⟩, hS.F ht⟩) hS.2.2 dX5_readsWork_163
    have hsp := itF hsp c19
    refine lv_iconst (v := 1) hx hb dX5_readsWork_153 (by decide) ?_
    refine lv_goto (tgt := 158) hx hb dX5_readsWork_154 (by decide) ?_
    refine lv_iadd hx hb dX5_readsWork_158 ?_
    obtain ⟨x21, ex21, hsp⟩ := nmE hsp
    refine r_top ex21 ?_
    refine va_put (D := D) (ci := 5) (v := .int x21) (ty := .int) (C := RX5) (T := TX5) (N := 13) hx hb hts hi_X5 tyX5 tyX5_ok nmX5 hown hK hP hD hS 0 rfl rfl 11 (by decide) hf_133 (fun _ h9 => h9) rfl (by decide +kernel) rfl rfl (Nat.le_of_ble_eq_true rfl) dX5_readsWork_159 (fun H locs hP hD hS => ?_)
    have hP : va_P D vwCl [(a0, .inr (5, [w0_0, w0_1, w0_2, w0_3, w0_4, w0_5, w0_6, .ref a8, .ref a9, .int g0_9, w0_10, .int x21, .int r17.2.1])), (a8, .inl (cI, 192, .inl y18)), (a9, .inl (cC, 60, .inl f9))] H := hP
    have hD : va_D A [(a0, .inr (5, [w0_0, w0_1, w0_2, w0_3, w0_4, w0_5, w0_6, .ref a8, .ref a9, .int g0_9, w0_10, .int x21, .int r17.2.1])), (a8, .inl (cI, 192, .inl y18)), (a9, .inl (cC, 60, .inl f9))] := hD
    refine lv_iload_n hx hb dX5_readsWork_162 rfl (lv_at hl 0 rfl) ?_
    have hres := Option.some.inj hsp
    subst hres
    exact W.zret (v := r17.1) hx hb hr (zE hzr17) (fun t ht hW => ⟨⟨r17.1, (), rfl, ⟨rfl, hzr17⟩, P_at ht hP⟩, hS.F ht⟩) hS.2.2 dX5_readsWork_163
  have hsp := itF hsp c3
  refine lv_aload_n hx hb dX5_readsWork_17 rfl (lv_at hl 1 rfl) ?_
  refine lv_iconst (v := 1) hx hb dX5_readsWork_18 (by decide) ?_
  refine lv_bipush (v := 48) hx hb dX5_readsWork_19 (by decide) ?_
  refine lv_bipush (v := 55) hx hb dX5_readsWork_21 (by decide) ?_
  obtain ⟨r22, hcr22, hsp⟩ := clE hsp
  refine call_z (w1 := [(a0, .inr (5, [w0_0, w0_1, w0_2, w0_3, w0_4, w0_5, w0_6, .ref a8, .ref a9, .int g0_9, w0_10, .int g0_11, .int r22.2.1])), (a8, .inl (cI, 192, .inl r22.2.2)), (a9, .inl (cC, 60, .inl f9))]) (ws' := [(a0, .inr (5, [w0_0, w0_1, w0_2, w0_3, w0_4, w0_5, w0_6, .ref a8, .ref a9, .int g0_9, w0_10, .int g0_11, .int r22.2.1])), (a8, .inl (cI, 192, .inl r22.2.2)), (a9, .inl (cC, 60, .inl f9))]) (va_runV (As := [.int 1, .int 48, .int 55]) (rest := []) ⟨hx, hb, hml, hown, hts⟩ (k_X5_digit l D cI cZ cC cS H.size a0 a8 a9 (w0_0) (w0_1) (w0_2) (w0_3) (w0_4) (w0_5) (w0_6) g0_9 (w0_10) g0_11 r2.2 f8 f9 1 48 55 r22 hcr22) (cwV 3 hts gX5_readsWork_X5_digit rfl rfl rfl nd_X5_digit ⟨Nat.le_of_ble_eq_true rfl, Nat.le_of_ble_eq_true rfl⟩) (PB.preV (ci := 5) (q0 := 0) hKU hP hD [0, 1, 2] rfl rfl rfl rfl) rfl rfl hl.1 rfl (lv_room (Nat.le_of_ble_eq_true rfl)) dX5_readsWork_23 ⟨Nat.zero_le _, Nat.zero_le _⟩) hS hP hD hA [0, 1, 2] rfl rfl (by first | (simp only [wset, List.set_cons_zero, List.set_cons_succ]; done) | rfl) rfl (fun H locs hP hD hS hzr22 => ?_)
  refine lv_if_eq (tgt := 54) hx hb dX5_readsWork_26 (by decide) (fun c23 => ?_) (fun c23 => ?_)
  · have hsp := itT hsp c23
    refine lv_iconst (v := 0) hx hb dX5_readsWork_54 (by decide) ?_
    refine lv_istore_n (lv' := [(2, .int 0), (1, .int x1), (0, .ref a0)]) hx hb dX5_readsWork_55 rfl hl (by decide) rfl (fun ls hl => ?_)
    refine lv_aload_n hx hb dX5_readsWork_56 rfl (lv_at hl 2 rfl) ?_
    refine va_get (D := D) (ci := 5) (v := .ref a8) (C := RX5) (T := TX5) (N := 13) hx hb hts hi_X5 hown hK hP 0 rfl rfl 7 (by decide) hf_32 (fun _ h9 => h9) rfl dX5_readsWork_57 ?_
    refine lv_iload_n hx hb dX5_readsWork_60 rfl (lv_at hl 1 rfl) ?_
    refine lv_bipush (v := 100) hx hb dX5_readsWork_61 (by decide) ?_
    obtain ⟨y24, ey24, hny24, hsp⟩ := stoE hsp
    refine r_iast (ws' := [(a0, .inr (5, [w0_0, w0_1, w0_2, w0_3, w0_4, w0_5, w0_6, .ref a8, .ref a9, .int g0_9, w0_10, .int g0_11, .int r22.2.1])), (a8, .inl (cI, 192, .inl y24)), (a9, .inl (cC, 60, .inl f9))]) hx hb hK hP hD hS 1 0 rfl rfl ey24 hny24 rfl dX5_readsWork_63 (fun H locs hP hD hS => ?_)
    refine lv_goto (tgt := 144) hx hb dX5_readsWork_64 (by decide) ?_
    refine lv_aload_n hx hb dX5_readsWork_144 rfl (lv_at hl 2 rfl) ?_
    refine lv_dup hx hb dX5_readsWork_145 rfl ?_
    refine va_get (D := D) (ci := 5) (v := .int g0_11) (C := RX5) (T := TX5) (N := 13) hx hb hts hi_X5 hown hK hP 0 rfl rfl 11 (by decide) hf_133 (fun _ h9 => h9) rfl dX5_readsWork_146 ?_
    refine lv_iload_n hx hb dX5_readsWork_149 rfl (lv_at hl 0 rfl) ?_
    refine lv_if_eq (tgt := 157) hx hb dX5_readsWork_150 (by decide) (fun _ => ?_) (fun hc => absurd hc (by decide))
    refine lv_iconst (v := 0) hx hb dX5_readsWork_157 (by decide) ?_
    refine lv_iadd hx hb dX5_readsWork_158 ?_
    obtain ⟨x25, ex25, hsp⟩ := nmE hsp
    refine r_top ex25 ?_
    refine va_put (D := D) (ci := 5) (v := .int x25) (ty := .int) (C := RX5) (T := TX5) (N := 13) hx hb hts hi_X5 tyX5 tyX5_ok nmX5 hown hK hP hD hS 0 rfl rfl 11 (by decide) hf_133 (fun _ h9 => h9) rfl (by decide +kernel) rfl rfl (Nat.le_of_ble_eq_true rfl) dX5_readsWork_159 (fun H locs hP hD hS => ?_)
    have hP : va_P D vwCl [(a0, .inr (5, [w0_0, w0_1, w0_2, w0_3, w0_4, w0_5, w0_6, .ref a8, .ref a9, .int g0_9, w0_10, .int x25, .int r22.2.1])), (a8, .inl (cI, 192, .inl y24)), (a9, .inl (cC, 60, .inl f9))] H := hP
    have hD : va_D A [(a0, .inr (5, [w0_0, w0_1, w0_2, w0_3, w0_4, w0_5, w0_6, .ref a8, .ref a9, .int g0_9, w0_10, .int x25, .int r22.2.1])), (a8, .inl (cI, 192, .inl y24)), (a9, .inl (cC, 60, .inl f9))] := hD
    refine lv_iload_n hx hb dX5_readsWork_162 rfl (lv_at hl 0 rfl) ?_
    have hres := Option.some.inj hsp
    subst hres
    exact W.zret (v := 0) hx hb hr (zE (Or.inl rfl)) (fun t ht hW => ⟨⟨0, (), rfl, ⟨rfl, (Or.inl rfl)⟩, P_at ht hP⟩, hS.F ht⟩) hS.2.2 dX5_readsWork_163
  have hsp := itF hsp c23
  refine lv_aload_n hx hb dX5_readsWork_29 rfl (lv_at hl 1 rfl) ?_
  refine lv_bipush (v := 58) hx hb dX5_readsWork_30 (by decide) ?_
  obtain ⟨r26, hcr26, hsp⟩ := clE hsp
  refine call_z (w1 := [(a0, .inr (5, [w0_0, w0_1, w0_2, w0_3, w0_4, w0_5, w0_6, .ref a8, .ref a9, .int g0_9, w0_10, .int g0_11, .int r26.2])), (a9, .inl (cC, 60, .inl f9))]) (ws' := [(a0, .inr (5, [w0_0, w0_1, w0_2, w0_3, w0_4, w0_5, w0_6, .ref a8, .ref a9, .int g0_9, w0_10, .int g0_11, .int r26.2])), (a8, .inl (cI, 192, .inl r22.2.2)), (a9, .inl (cC, 60, .inl f9))]) (va_runV (As := [.int 58]) (rest := []) ⟨hx, hb, hml, hown, hts⟩ (k_X5_accepts l D cI cZ cC cS H.size a0 a9 (w0_0) (w0_1) (w0_2) (w0_3) (w0_4) (w0_5) (w0_6) (.ref a8) g0_9 (w0_10) (.int g0_11) r22.2.1 f9 58 r26 hcr26) (cwV 1 hts gX5_readsWork_X5_accepts rfl rfl rfl nd_X5_accepts ⟨Nat.le_of_ble_eq_true rfl, Nat.le_of_ble_eq_true rfl⟩) (PB.preV (ci := 5) (q0 := 0) hKU hP hD [0, 2] rfl rfl rfl rfl) rfl rfl hl.1 rfl (lv_room (Nat.le_of_ble_eq_true rfl)) dX5_readsWork_32 ⟨Nat.zero_le _, Nat.zero_le _⟩) hS hP hD hA [0, 2] rfl rfl (by first | (simp only [wset, List.set_cons_zero, List.set_cons_succ]; done) | rfl) rfl (fun H locs hP hD hS hzr26 => ?_)
  refine lv_if_eq (tgt := 54) hx hb dX5_readsWork_35 (by decide) (fun c27 => ?_) (fun c27 => ?_)
  · have hsp := itT hsp c27
    refine lv_iconst (v := 0) hx hb dX5_readsWork_54 (by decide) ?_
    refine lv_istore_n (lv' := [(2, .int 0), (1, .int x1), (0, .ref a0)]) hx hb dX5_readsWork_55 rfl hl (by decide) rfl (fun ls hl => ?_)
    refine lv_aload_n hx hb dX5_readsWork_56 rfl (lv_at hl 2 rfl) ?_
    refine va_get (D := D) (ci := 5) (v := .ref a8) (C := RX5) (T := TX5) (N := 13) hx hb hts hi_X5 hown hK hP 0 rfl rfl 7 (by decide) hf_32 (fun _ h9 => h9) rfl dX5_readsWork_57 ?_
    refine lv_iload_n hx hb dX5_readsWork_60 rfl (lv_at hl 1 rfl) ?_
    refine lv_bipush (v := 100) hx hb dX5_readsWork_61 (by decide) ?_
    obtain ⟨y28, ey28, hny28, hsp⟩ := stoE hsp
    refine r_iast (ws' := [(a0, .inr (5, [w0_0, w0_1, w0_2, w0_3, w0_4, w0_5, w0_6, .ref a8, .ref a9, .int g0_9, w0_10, .int g0_11, .int r26.2])), (a8, .inl (cI, 192, .inl y28)), (a9, .inl (cC, 60, .inl f9))]) hx hb hK hP hD hS 1 0 rfl rfl ey28 hny28 rfl dX5_readsWork_63 (fun H locs hP hD hS => ?_)
    refine lv_goto (tgt := 144) hx hb dX5_readsWork_64 (by decide) ?_
    refine lv_aload_n hx hb dX5_readsWork_144 rfl (lv_at hl 2 rfl) ?_
    refine lv_dup hx hb dX5_readsWork_145 rfl ?_
    refine va_get (D := D) (ci := 5) (v := .int g0_11) (C := RX5) (T := TX5) (N := 13) hx hb hts hi_X5 hown hK hP 0 rfl rfl 11 (by decide) hf_133 (fun _ h9 => h9) rfl dX5_readsWork_146 ?_
    refine lv_iload_n hx hb dX5_readsWork_149 rfl (lv_at hl 0 rfl) ?_
    refine lv_if_eq (tgt := 157) hx hb dX5_readsWork_150 (by decide) (fun _ => ?_) (fun hc => absurd hc (by decide))
    refine lv_iconst (v := 0) hx hb dX5_readsWork_157 (by decide) ?_
    refine lv_iadd hx hb dX5_readsWork_158 ?_
    obtain ⟨x29, ex29, hsp⟩ := nmE hsp
    refine r_top ex29 ?_
    refine va_put (D := D) (ci := 5) (v := .int x29) (ty := .int) (C := RX5) (T := TX5) (N := 13) hx hb hts hi_X5 tyX5 tyX5_ok nmX5 hown hK hP hD hS 0 rfl rfl 11 (by decide) hf_133 (fun _ h9 => h9) rfl (by decide +kernel) rfl rfl (Nat.le_of_ble_eq_true rfl) dX5_readsWork_159 (fun H locs hP hD hS => ?_)
    have hP : va_P D vwCl [(a0, .inr (5, [w0_0, w0_1, w0_2, w0_3, w0_4, w0_5, w0_6, .ref a8, .ref a9, .int g0_9, w0_10, .int x29, .int r26.2])), (a8, .inl (cI, 192, .inl y28)), (a9, .inl (cC, 60, .inl f9))] H := hP
    have hD : va_D A [(a0, .inr (5, [w0_0, w0_1, w0_2, w0_3, w0_4, w0_5, w0_6, .ref a8, .ref a9, .int g0_9, w0_10, .int x29, .int r26.2])), (a8, .inl (cI, 192, .inl y28)), (a9, .inl (cC, 60, .inl f9))] := hD
    refine lv_iload_n hx hb dX5_readsWork_162 rfl (lv_at hl 0 rfl) ?_
    have hres := Option.some.inj hsp
    subst hres
    exact W.zret (v := 0) hx hb hr (zE (Or.inl rfl)) (fun t ht hW => ⟨⟨0, (), rfl, ⟨rfl, (Or.inl rfl)⟩, P_at ht hP⟩, hS.F ht⟩) hS.2.2 dX5_readsWork_163
  have hsp := itF hsp c27
  refine lv_aload_n hx hb dX5_readsWork_38 rfl (lv_at hl 1 rfl) ?_
  refine lv_iconst (v := 2) hx hb dX5_readsWork_39 (by decide) ?_
  refine lv_bipush (v := 49) hx hb dX5_readsWork_40 (by decide) ?_
  refine lv_bipush (v := 57) hx hb dX5_readsWork_42 (by decide) ?_
  obtain ⟨r30, hcr30, hsp⟩ := clE hsp
  refine call_z (w1 := [(a0, .inr (5, [w0_0, w0_1, w0_2, w0_3, w0_4, w0_5, w0_6, .ref a8, .ref a9, .int g0_9, w0_10, .int g0_11, .int r30.2.1])), (a8, .inl (cI, 192, .inl r30.2.2)), (a9, .inl (cC, 60, .inl f9))]) (ws' := [(a0, .inr (5, [w0_0, w0_1, w0_2, w0_3, w0_4, w0_5, w0_6, .ref a8, .ref a9, .int g0_9, w0_10, .int g0_11, .int r30.2.1])), (a8, .inl (cI, 192, .inl r30.2.2)), (a9, .inl (cC, 60, .inl f9))]) (va_runV (As := [.int 2, .int 49, .int 57]) (rest := []) ⟨hx, hb, hml, hown, hts⟩ (k_X5_digit l D cI cZ cC cS H.size a0 a8 a9 (w0_0) (w0_1) (w0_2) (w0_3) (w0_4) (w0_5) (w0_6) g0_9 (w0_10) g0_11 r26.2 r22.2.2 f9 2 49 57 r30 hcr30) (cwV 3 hts gX5_readsWork_X5_digit rfl rfl rfl nd_X5_digit ⟨Nat.le_of_ble_eq_true rfl, Nat.le_of_ble_eq_true rfl⟩) (PB.preV (ci := 5) (q0 := 0) hKU hP hD [0, 1, 2] rfl rfl rfl rfl) rfl rfl hl.1 rfl (lv_room (Nat.le_of_ble_eq_true rfl)) dX5_readsWork_44 ⟨Nat.zero_le _, Nat.zero_le _⟩) hS hP hD hA [0, 1, 2] rfl rfl (by first | (simp only [wset, List.set_cons_zero, List.set_cons_succ]; done) | rfl) rfl (fun H locs hP hD hS hzr30 => ?_)
  refine lv_if_eq (tgt := 54) hx hb dX5_readsWork_47 (by decide) (fun c31 => ?_) (fun c31 => ?_)
  · have hsp := itT hsp c31
    refine lv_iconst (v := 0) hx hb dX5_readsWork_54 (by decide) ?_
    refine lv_istore_n (lv' := [(2, .int 0), (1, .int x1), (0, .ref a0)]) hx hb dX5_readsWork_55 rfl hl (by decide) rfl (fun ls hl => ?_)
    refine lv_aload_n hx hb dX5_readsWork_56 rfl (lv_at hl 2 rfl) ?_
    refine va_get (D := D) (ci := 5) (v := .ref a8) (C := RX5) (T := TX5) (N := 13) hx hb hts hi_X5 hown hK hP 0 rfl rfl 7 (by decide) hf_32 (fun _ h9 => h9) rfl dX5_readsWork_57 ?_
    refine lv_iload_n hx hb dX5_readsWork_60 rfl (lv_at hl 1 rfl) ?_
    refine lv_bipush (v := 100) hx hb dX5_readsWork_61 (by decide) ?_
    obtain ⟨y32, ey32, hny32, hsp⟩ := stoE hsp
    refine r_iast (ws' := [(a0, .inr (5, [w0_0, w0_1, w0_2, w0_3, w0_4, w0_5, w0_6, .ref a8, .ref a9, .int g0_9, w0_10, .int g0_11, .int r30.2.1])), (a8, .inl (cI, 192, .inl y32)), (a9, .inl (cC, 60, .inl f9))]) hx hb hK hP hD hS 1 0 rfl rfl ey32 hny32 rfl dX5_readsWork_63 (fun H locs hP hD hS => ?_)
    refine lv_goto (tgt := 144) hx hb dX5_readsWork_64 (by decide) ?_
    refine lv_aload_n hx hb dX5_readsWork_144 rfl (lv_at hl 2 rfl) ?_
    refine lv_dup hx hb dX5_readsWork_145 rfl ?_
    refine va_get (D := D) (ci := 5) (v := .int g0_11) (C := RX5) (T := TX5) (N := 13) hx hb hts hi_X5 hown hK hP 0 rfl rfl 11 (by decide) hf_133 (fun _ h9 => h9) rfl dX5_readsWork_146 ?_
    refine lv_iload_n hx hb dX5_readsWork_149 rfl (lv_at hl 0 rfl) ?_
    refine lv_if_eq (tgt := 157) hx hb dX5_readsWork_150 (by decide) (fun _ => ?_) (fun hc => absurd hc (by decide))
    refine lv_iconst (v := 0) hx hb dX5_readsWork_157 (by decide) ?_
    refine lv_iadd hx hb dX5_readsWork_158 ?_
    obtain ⟨x33, ex33, hsp⟩ := nmE hsp
    refine r_top ex33 ?_
    refine va_put (D := D) (ci := 5) (v := .int x33) (ty := .int) (C := RX5) (T := TX5) (N := 13) hx hb hts hi_X5 tyX5 tyX5_ok nmX5 hown hK hP hD hS 0 rfl rfl 11 (by decide) hf_133 (fun _ h9 => h9) rfl (by decide +kernel) rfl rfl (Nat.le_of_ble_eq_true rfl) dX5_readsWork_159 (fun H locs hP hD hS => ?_)
    have hP : va_P D vwCl [(a0, .inr (5, [w0_0, w0_1, w0_2, w0_3, w0_4, w0_5, w0_6, .ref a8, .ref a9, .int g0_9, w0_10, .int x33, .int r30.2.1])), (a8, .inl (cI, 192, .inl y32)), (a9, .inl (cC, 60, .inl f9))] H := hP
    have hD : va_D A [(a0, .inr (5, [w0_0, w0_1, w0_2, w0_3, w0_4, w0_5, w0_6, .ref a8, .ref a9, .int g0_9, w0_10, .int x33, .int r30.2.1])), (a8, .inl (cI, 192, .inl y32)), (a9, .inl (cC, 60, .inl f9))] := hD
    refine lv_iload_n hx hb dX5_readsWork_162 rfl (lv_at hl 0 rfl) ?_
    have hres := Option.some.inj hsp
    subst hres
    exact W.zret (v := 0) hx hb hr (zE (Or.inl rfl)) (fun t ht hW => ⟨⟨0, (), rfl, ⟨rfl, (Or.inl rfl)⟩, P_at ht hP⟩, hS.F ht⟩) hS.2.2 dX5_readsWork_163
  have hsp := itF hsp c31
  refine lv_iconst (v := 1) hx hb dX5_readsWork_50 (by decide) ?_
  refine lv_goto (tgt := 55) hx hb dX5_readsWork_51 (by decide) ?_
  refine lv_istore_n (lv' := [(2, .int 1), (1, .int x1), (0, .ref a0)]) hx hb dX5_readsWork_55 rfl hl (by decide) rfl (fun ls hl => ?_)
  refine lv_aload_n hx hb dX5_readsWork_56 rfl (lv_at hl 2 rfl) ?_
  refine va_get (D := D) (ci := 5) (v := .ref a8) (C := RX5) (T := TX5) (N := 13) hx hb hts hi_X5 hown hK hP 0 rfl rfl 7 (by decide) hf_32 (fun _ h9 => h9) rfl dX5_readsWork_57 ?_
  refine lv_iload_n hx hb dX5_readsWork_60 rfl (lv_at hl 1 rfl) ?_
  refine lv_bipush (v := 100) hx hb dX5_readsWork_61 (by decide) ?_
  obtain ⟨y34, ey34, hny34, hsp⟩ := stoE hsp
  refine r_iast (ws' := [(a0, .inr (5, [w0_0, w0_1, w0_2, w0_3, w0_4, w0_5, w0_6, .ref a8, .ref a9, .int g0_9, w0_10, .int g0_11, .int r30.2.1])), (a8, .inl (cI, 192, .inl y34)), (a9, .inl (cC, 60, .inl f9))]) hx hb hK hP hD hS 1 0 rfl rfl ey34 hny34 rfl dX5_readsWork_63 (fun H locs hP hD hS => ?_)
  refine lv_goto (tgt := 144) hx hb dX5_readsWork_64 (by decide) ?_
  refine lv_aload_n hx hb dX5_readsWork_144 rfl (lv_at hl 2 rfl) ?_
  refine lv_dup hx hb dX5_readsWork_145 rfl ?_
  refine va_get (D := D) (ci := 5) (v := .int g0_11) (C := RX5) (T := TX5) (N := 13) hx hb hts hi_X5 hown hK hP 0 rfl rfl 11 (by decide) hf_133 (fun _ h9 => h9) rfl dX5_readsWork_146 ?_
  refine lv_iload_n hx hb dX5_readsWork_149 rfl (lv_at hl 0 rfl) ?_
  refine lv_if_eq (tgt := 157) hx hb dX5_readsWork_150 (by decide) (fun hc => absurd hc (by decide)) (fun _ => ?_)
  refine lv_iconst (v := 1) hx hb dX5_readsWork_153 (by decide) ?_
  refine lv_goto (tgt := 158) hx hb dX5_readsWork_154 (by decide) ?_
  refine lv_iadd hx hb dX5_readsWork_158 ?_
  obtain ⟨x35, ex35, hsp⟩ := nmE hsp
  refine r_top ex35 ?_
  refine va_put (D := D) (ci := 5) (v := .int x35) (ty := .int) (C := RX5) (T := TX5) (N := 13) hx hb hts hi_X5 tyX5 tyX5_ok nmX5 hown hK hP hD hS 0 rfl rfl 11 (by decide) hf_133 (fun _ h9 => h9) rfl (by decide +kernel) rfl rfl (Nat.le_of_ble_eq_true rfl) dX5_readsWork_159 (fun H locs hP hD hS => ?_)
  have hP : va_P D vwCl [(a0, .inr (5, [w0_0, w0_1, w0_2, w0_3, w0_4, w0_5, w0_6, .ref a8, .ref a9, .int g0_9, w0_10, .int x35, .int r30.2.1])), (a8, .inl (cI, 192, .inl y34)), (a9, .inl (cC, 60, .inl f9))] H := hP
  have hD : va_D A [(a0, .inr (5, [w0_0, w0_1, w0_2, w0_3, w0_4, w0_5, w0_6, .ref a8, .ref a9, .int g0_9, w0_10, .int x35, .int r30.2.1])), (a8, .inl (cI, 192, .inl y34)), (a9, .inl (cC, 60, .inl f9))] := hD
  refine lv_iload_n hx hb dX5_readsWork_162 rfl (lv_at hl 0 rfl) ?_
  have hres := Option.some.inj hsp
  subst hres
  exact W.zret (v := 1) hx hb hr (zE (Or.inr rfl)) (fun t ht hW => ⟨⟨1, (), rfl, ⟨rfl, (Or.inr rfl)⟩, P_at ht hP⟩, hS.F ht⟩) hS.2.2 dX5_readsWork_163
