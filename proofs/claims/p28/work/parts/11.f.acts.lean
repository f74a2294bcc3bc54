theorem nd_L_acts : yL_acts.cls = RL ∧ yL_acts.cls ≠ "java/lang/invoke/MethodHandle" ∧ yL_acts.cls ≠ "java/lang/invoke/VarHandle" ∧ (parseMethodDescriptor yL_acts.desc).map (fun d => d.parameters.length) = some 2 := by decide +kernel
set_option maxHeartbeats 8000000 in
set_option maxRecDepth 100000 in
theorem k_L_acts (l : Launch) (D : va_G) (cI cZ cC cS : ClassId) (sz : Nat) (w : va_W) (oa : Nat) (f0 : Ab) (hO : OKW cI cS oa f0 w) (u1 : Int32) (res : Int32 × Ab) (hsp : s_L_acts f0 u1 = some res) : Met l yL_acts wsL_acts ({ frames := 7, cells := 0, slots := 0, locals := 162 }) (va_Pc [.ref oa, .int u1] (PB D cI cZ cC cS w sz)) (va_Qi (fun r (_ : Unit) => r = res.1 ∧ (res.1 = 0 ∨ res.1 = 1)) (fun _ t => WD D cI cS (va_A w sz) oa res.2 t.heap) (va_A w sz)) 0 0 (va_A w sz) := by
  refine Met.ofW (cc := cL_acts) (maxL := 28) (ret := (some .boolean)) (by decide) rfl ?_
  intro p e s m args below meth c s₁ B hml hv
  obtain ⟨rfl, hsz, hP, hD0, hKU⟩ := hv
  have hx := B.exec
  have hb := B.bytes
  have hr := B.returns
  have hts := atoms_spec (ws := wsL_acts) B.pre
  have hown : s.vm.findClass RL = some m.cls := findClass_of_methodNamed B.named
  have hlocks := B.notSynchronized
  subst hsz
  have hD := hD0.self (sz := s.heap.size)
  have hAA : ∀ q : Nat, s.heap.size ≤ q → va_A w s.heap.size q := fun q h => Or.inr h
  generalize hAe : va_A w s.heap.size = A at hD hAA ⊢
  have hA : ∀ q : Nat, s.heap.size ≤ q → A q := hAA
  have hW : WD D cI cS A oa f0 s.heap := ⟨w, hO, hP, hD⟩
  generalize hHe : s.heap = H at hW ⊢
  have hS : va_S A s.heap H [] := by rw [hHe]; exact va_S.rf
  have hl := lv_entry ([.ref oa, .int u1]) (n := 28) (Nat.le_of_ble_eq_true rfl)
  rw [lg_entry_eq]
  generalize (lg_sl ([.ref oa, .int u1]) ++ List.replicate (28 - (lg_sl ([.ref oa, .int u1])).length) Slot.unset).toArray = ls at hl ⊢
  have hl : lv_has ls 28 [(0, .ref oa), (1, .int u1)] := hl
  unfold s_L_acts at hsp
  refine lv_iload_n hx hb dL_acts_0 rfl (lv_at hl 1 rfl) ?_
  refine lv_iconst (v := 4) hx hb dL_acts_1 (by decide) ?_
  refine lv_ishr hx hb dL_acts_2 ?_
  refine lv_bipush (v := 8) hx hb dL_acts_3 (by decide) ?_
  obtain ⟨x1, ex1, hnx1, hsp⟩ := rmdE hsp
  refine lv_irem hx hb dL_acts_5 hnx1 ?_
  refine r_top ex1 ?_
  refine lv_istore_n (lv' := [(2, .int x1), (0, .ref oa), (1, .int u1)]) hx hb dL_acts_6 rfl hl (by decide) rfl (fun ls hl => ?_)
  refine lv_iload_n hx hb dL_acts_7 rfl (lv_at hl 2 rfl) ?_
  refine lv_bipush (v := 7) hx hb dL_acts_8 (by decide) ?_
  refine lv_ishr hx hb dL_acts_10 ?_
  refine lv_bipush (v := 8) hx hb dL_acts_11 (by decide) ?_
  obtain ⟨x2, ex2, hnx2, hsp⟩ := rmdE hsp
  refine lv_irem hx hb dL_acts_13 hnx2 ?_
  refine r_top ex2 ?_
  refine lv_istore_n (lv' := [(3, .int x2), (2, .int x1), (0, .ref oa), (1, .int u1)]) hx hb dL_acts_14 rfl hl (by decide) rfl (fun ls hl => ?_)
  refine lv_iconst (v := 1) hx hb dL_acts_15 (by decide) ?_
  refine lv_iload_n hx hb dL_acts_16 rfl (lv_at hl 3 rfl) ?_
  refine lv_bipush (v := 10) hx hb dL_acts_17 (by decide) ?_
  refine lv_ishr hx hb dL_acts_19 ?_
  refine lv_bipush (v := 30) hx hb dL_acts_20 (by decide) ?_
  obtain ⟨x3, ex3, hnx3, hsp⟩ := rmdE hsp
  refine lv_irem hx hb dL_acts_22 hnx3 ?_
  refine r_top ex3 ?_
  refine lv_iadd hx hb dL_acts_23 ?_
  obtain ⟨x4, ex4, hsp⟩ := nmE hsp
  refine r_top ex4 ?_
  refine lv_istore (lv' := [(4, .int x4), (3, .int x2), (2, .int x1), (0, .ref oa), (1, .int u1)]) hx hb dL_acts_24 hl (by decide) rfl (fun ls hl => ?_)
  refine lv_aload_n hx hb dL_acts_26 rfl (lv_at hl 3 rfl) ?_
  refine lv_iload_n hx hb dL_acts_27 rfl (lv_at hl 2 rfl) ?_
  refine lv_iconst (v := 4) hx hb dL_acts_28 (by decide) ?_
  obtain ⟨r5, hcr5, hsp⟩ := clE hsp
  refine call_o (As := [.int x1, .int 4]) (rest := []) (KO_pot (l := l) (D := D) (cI := cI) (cZ := cZ) (cC := cC) (cS := cS) (oa := oa) hcr5) hKU hW hS hA ⟨hx, hb, hml, hown, hts⟩ (cwV 2 hts gL_acts_X4_pot rfl rfl rfl nd_X4_pot ⟨Nat.le_of_ble_eq_true rfl, Nat.le_of_ble_eq_true rfl⟩) rfl hl.1 rfl (Nat.le_of_ble_eq_true rfl) dL_acts_29 ⟨Nat.le_of_ble_eq_true rfl, Nat.le_of_ble_eq_true rfl⟩ (fun H locs hW hS => ?_)
  refine lv_istore (lv' := [(5, .int r5), (4, .int x4), (3, .int x2), (2, .int x1), (0, .ref oa), (1, .int u1)]) hx hb dL_acts_32 hl (by decide) rfl (fun ls hl => ?_)
  refine lv_aload_n hx hb dL_acts_34 rfl (lv_at hl 4 rfl) ?_
  refine lv_iconst (v := 4) hx hb dL_acts_35 (by decide) ?_
  obtain ⟨r6, hcr6, hsp⟩ := clE hsp
  refine call_o (As := [.int 4]) (rest := []) (KO_brush (l := l) (D := D) (cI := cI) (cZ := cZ) (cC := cC) (cS := cS) (oa := oa) hcr6) hKU hW hS hA ⟨hx, hb, hml, hown, hts⟩ (cwV 1 hts gL_acts_X4_brush rfl rfl rfl nd_X4_brush ⟨Nat.le_of_ble_eq_true rfl, Nat.le_of_ble_eq_true rfl⟩) rfl hl.1 rfl (Nat.le_of_ble_eq_true rfl) dL_acts_36 ⟨Nat.le_of_ble_eq_true rfl, Nat.le_of_ble_eq_true rfl⟩ (fun H locs hW hS => ?_)
  refine lv_istore (lv' := [(6, .int r6), (5, .int r5), (4, .int x4), (3, .int x2), (2, .int x1), (0, .ref oa), (1, .int u1)]) hx hb dL_acts_39 hl (by decide) rfl (fun ls hl => ?_)
  refine lv_iload_n hx hb dL_acts_41 rfl (lv_at hl 6 rfl) ?_
  refine lv_bipush (v := 11) hx hb dL_acts_42 (by decide) ?_
  obtain ⟨x7, ex7, hnx7, hsp⟩ := rmdE hsp
  refine lv_irem hx hb dL_acts_44 hnx7 ?_
  refine r_top ex7 ?_
  by_cases c8 : x7 = 0
  · have hsp := itT hsp c8
    refine lv_tableIn (off := 55) (tgt := 100) hx hb dL_acts_45 (by rw [c8]; decide) (by rw [c8]; decide) (by rw [c8]; decide) (by decide) ?_
    refine lv_iload_n hx hb dL_acts_100 rfl (lv_at hl 6 rfl) ?_
    refine lv_bipush (v := 15) hx hb dL_acts_101 (by decide) ?_
    refine lv_ishr hx hb dL_acts_103 ?_
    refine lv_iconst (v := 4) hx hb dL_acts_104 (by decide) ?_
    obtain ⟨x9, ex9, hnx9, hsp⟩ := rmdE hsp
    refine lv_irem hx hb dL_acts_105 hnx9 ?_
    refine r_top ex9 ?_
    refine lv_istore (lv' := [(7, .int x9), (6, .int r6), (5, .int r5), (4, .int x4), (3, .int x2), (2, .int x1), (0, .ref oa), (1, .int u1)]) hx hb dL_acts_106 hl (by decide) rfl (fun ls hl => ?_)
    refine lv_aload_n hx hb dL_acts_108 rfl (lv_at hl 6 rfl) ?_
    refine lv_iload_n hx hb dL_acts_109 rfl (lv_at hl 5 rfl) ?_
    refine lv_iload hx hb dL_acts_110 (lv_at hl 0 rfl) ?_
    obtain ⟨r10, hcr10, hsp⟩ := clE hsp
    refine call_o (As := [.int x1, .int x9]) (rest := []) (KO_pot (l := l) (D := D) (cI := cI) (cZ := cZ) (cC := cC) (cS := cS) (oa := oa) hcr10) hKU hW hS hA ⟨hx, hb, hml, hown, hts⟩ (cwV 2 hts gL_acts_X4_pot rfl rfl rfl nd_X4_pot ⟨Nat.le_of_ble_eq_true rfl, Nat.le_of_ble_eq_true rfl⟩) rfl hl.1 rfl (Nat.le_of_ble_eq_true rfl) dL_acts_112 ⟨Nat.le_of_ble_eq_true rfl, Nat.le_of_ble_eq_true rfl⟩ (fun H locs hW hS => ?_)
    refine lv_istore (lv' := [(8, .int r10), (7, .int x9), (6, .int r6), (5, .int r5), (4, .int x4), (3, .int x2), (2, .int x1), (0, .ref oa), (1, .int u1)]) hx hb dL_acts_115 hl (by decide) rfl (fun ls hl => ?_)
    refine lv_aload_n hx hb dL_acts_117 rfl (lv_at hl 7 rfl) ?_
    refine lv_iload_n hx hb dL_acts_118 rfl (lv_at hl 6 rfl) ?_
    refine lv_iload hx hb dL_acts_119 (lv_at hl 1 rfl) ?_
    refine lv_iload hx hb dL_acts_121 (lv_at hl 4 rfl) ?_
    obtain ⟨r11, hcr11, hsp⟩ := clE hsp
    refine call_o (As := [.int x1, .int x9, .int x4]) (rest := []) (KO_fill (l := l) (D := D) (cI := cI) (cZ := cZ) (cC := cC) (cS := cS) (oa := oa) hcr11) hKU hW hS hA ⟨hx, hb, hml, hown, hts⟩ (cwV 3 hts gL_acts_X4_fill rfl rfl rfl nd_X4_fill ⟨Nat.le_of_ble_eq_true rfl, Nat.le_of_ble_eq_true rfl⟩) rfl hl.1 rfl (Nat.le_of_ble_eq_true rfl) dL_acts_123 ⟨Nat.le_of_ble_eq_true rfl, Nat.le_of_ble_eq_true rfl⟩ (fun H locs hW hS => ?_)
    have hW : WD D cI cS A oa r11.2 H := hW
    refine lv_istore (lv' := [(9, .int r11.1), (8, .int r10), (7, .int x9), (6, .int r6), (5, .int r5), (4, .int x4), (3, .int x2), (2, .int x1), (0, .ref oa), (1, .int u1)]) hx hb dL_acts_126 hl (by decide) rfl (fun ls hl => ?_)
    refine lv_iload hx hb dL_acts_128 (lv_at hl 4 rfl) ?_
    refine lv_iload hx hb dL_acts_130 (lv_at hl 5 rfl) ?_
    refine lv_iadd hx hb dL_acts_132 ?_
    refine lv_bipush (v := 81) hx hb dL_acts_133 (by decide) ?_
    refine lv_icmp_le (tgt := 153) hx hb dL_acts_135 (by decide) (fun c12 => ?_) (fun c12 => ?_)
    · have hsp := itT hsp c12
      refine lv_iload hx hb dL_acts_153 (lv_at hl 0 rfl) ?_
      refine lv_iload hx hb dL_acts_155 (lv_at hl 4 rfl) ?_
      refine lv_iload hx hb dL_acts_157 (lv_at hl 5 rfl) ?_
      refine lv_iadd hx hb dL_acts_159 ?_
      refine lv_icmp_ne (tgt := 182) hx hb dL_acts_160 (by decide) (fun c13 => ?_) (fun c13 => ?_)
      · have hsp := itF hsp c13
        cases hsp
      have hsp := itT hsp c13
      refine lv_aload_n hx hb dL_acts_163 rfl (lv_at hl 8 rfl) ?_
      refine lv_iload_n hx hb dL_acts_164 rfl (lv_at hl 7 rfl) ?_
      refine lv_iload hx hb dL_acts_165 (lv_at hl 2 rfl) ?_
      obtain ⟨r14, hcr14, hsp⟩ := clE hsp
      refine call_o (As := [.int x1, .int x9]) (rest := []) (KO_pot (l := l) (D := D) (cI := cI) (cZ := cZ) (cC := cC) (cS := cS) (oa := oa) hcr14) hKU hW hS hA ⟨hx, hb, hml, hown, hts⟩ (cwV 2 hts gL_acts_X4_pot rfl rfl rfl nd_X4_pot ⟨Nat.le_of_ble_eq_true rfl, Nat.le_of_ble_eq_true rfl⟩) rfl hl.1 rfl (Nat.le_of_ble_eq_true rfl) dL_acts_167 ⟨Nat.le_of_ble_eq_true rfl, Nat.le_of_ble_eq_true rfl⟩ (fun H locs hW hS => ?_)
      refine lv_iload hx hb dL_acts_170 (lv_at hl 1 rfl) ?_
      refine lv_iload hx hb dL_acts_172 (lv_at hl 5 rfl) ?_
      refine lv_iadd hx hb dL_acts_174 ?_
      refine lv_icmp_ne (tgt := 182) hx hb dL_acts_175 (by decide) (fun c15 => ?_) (fun c15 => ?_)
      · have hsp := itF hsp c15
        cases hsp
      have hsp := itT hsp c15
      refine lv_iconst (v := 1) hx hb dL_acts_178 (by decide) ?_
      refine lv_goto (tgt := 183) hx hb dL_acts_179 (by decide) ?_
      have hres := Option.some.inj hsp
      subst hres
      exact W.zret (v := 1) hx hb hr (zE (Or.inr rfl)) (fun t ht _ => ⟨⟨1, (), rfl, ⟨rfl, (Or.inr rfl)⟩, W_at ht hW⟩, hS.F ht⟩) hS.2.2 dL_acts_183
    have hsp := itF hsp c12
    refine lv_iload hx hb dL_acts_138 (lv_at hl 0 rfl) ?_
    refine lv_bipush (v := (-4)) hx hb dL_acts_140 (by decide) ?_
    refine lv_icmp_ne (tgt := 149) hx hb dL_acts_142 (by decide) (fun c16 => ?_) (fun c16 => ?_)
    · have hsp := itF hsp c16
      cases hsp
    have hsp := itT hsp c16
    refine lv_iconst (v := 1) hx hb dL_acts_145 (by decide) ?_
    refine lv_goto (tgt := 183) hx hb dL_acts_146 (by decide) ?_
    have hres := Option.some.inj hsp
    subst hres
    exact W.zret (v := 1) hx hb hr (zE (Or.inr rfl)) (fun t ht _ => ⟨⟨1, (), rfl, ⟨rfl, (Or.inr rfl)⟩, W_at ht hW⟩, hS.F ht⟩) hS.2.2 dL_acts_183
  have hsp := itF hsp c8
  by_cases c17 : x7 = 1
  · have hsp := itT hsp c17
    refine lv_tableIn (off := 55) (tgt := 100) hx hb dL_acts_45 (by rw [c17]; decide) (by rw [c17]; decide) (by rw [c17]; decide) (by decide) ?_
    refine lv_iload_n hx hb dL_acts_100 rfl (lv_at hl 6 rfl) ?_
    refine lv_bipush (v := 15) hx hb dL_acts_101 (by decide) ?_
    refine lv_ishr hx hb dL_acts_103 ?_
    refine lv_iconst (v := 4) hx hb dL_acts_104 (by decide) ?_
    obtain ⟨x18, ex18, hnx18, hsp⟩ := rmdE hsp
    refine lv_irem hx hb dL_acts_105 hnx18 ?_
    refine r_top ex18 ?_
    refine lv_istore (lv' := [(7, .int x18), (6, .int r6), (5, .int r5), (4, .int x4), (3, .int x2), (2, .int x1), (0, .ref oa), (1, .int u1)]) hx hb dL_acts_106 hl (by decide) rfl (fun ls hl => ?_)
    refine lv_aload_n hx hb dL_acts_108 rfl (lv_at hl 6 rfl) ?_
    refine lv_iload_n hx hb dL_acts_109 rfl (lv_at hl 5 rfl) ?_
    refine lv_iload hx hb dL_acts_110 (lv_at hl 0 rfl) ?_
    obtain ⟨r19, hcr19, hsp⟩ := clE hsp
    refine call_o (As := [.int x1, .int x18]) (rest := []) (KO_pot (l := l) (D := D) (cI := cI) (cZ := cZ) (cC := cC) (cS := cS) (oa := oa) hcr19) hKU hW hS hA ⟨hx, hb, hml, hown, hts⟩ (cwV 2 hts gL_acts_X4_pot rfl rfl rfl nd_X4_pot ⟨Nat.le_of_ble_eq_true rfl, Nat.le_of_ble_eq_true rfl⟩) rfl hl.1 rfl (Nat.le_of_ble_eq_true rfl) dL_acts_112 ⟨Nat.le_of_ble_eq_true rfl, Nat.le_of_ble_eq_true rfl⟩ (fun H locs hW hS => ?_)
    refine lv_istore (lv' := [(8, .int r19), (7, .int x18), (6, .int r6), (5, .int r5), (4, .int x4), (3, .int x2), (2, .int x1), (0, .ref oa), (1, .int u1)]) hx hb dL_acts_115 hl (by decide) rfl (fun ls hl => ?_)
    refine lv_aload_n hx hb dL_acts_117 rfl (lv_at hl 7 rfl) ?_
    refine lv_iload_n hx hb dL_acts_118 rfl (lv_at hl 6 rfl) ?_
    refine lv_iload hx hb dL_acts_119 (lv_at hl 1 rfl) ?_
    refine lv_iload hx hb dL_acts_121 (lv_at hl 4 rfl) ?_
    obtain ⟨r20, hcr20, hsp⟩ := clE hsp
    refine call_o (As := [.int x1, .int x18, .int x4]) (rest := []) (KO_fill (l := l) (D := D) (cI := cI) (cZ := cZ) (cC := cC) (cS := cS) (oa := oa) hcr20) hKU hW hS hA ⟨hx, hb, hml, hown, hts⟩ (cwV 3 hts gL_acts_X4_fill rfl rfl rfl nd_X4_fill ⟨Nat.le_of_ble_eq_true rfl, Nat.le_of_ble_eq_true rfl⟩) rfl hl.1 rfl (Nat.le_of_ble_eq_true rfl) dL_acts_123 ⟨Nat.le_of_ble_eq_true rfl, Nat.le_of_ble_eq_true rfl⟩ (fun H locs hW hS => ?_)
    have hW : WD D cI cS A oa r20.2 H := hW
    refine lv_istore (lv' := [(9, .int r20.1), (8, .int r19), (7, .int x18), (6, .int r6), (5, .int r5), (4, .int x4), (3, .int x2), (2, .int x1), (0, .ref oa), (1, .int u1)]) hx hb dL_acts_126 hl (by decide) rfl (fun ls hl => ?_)
    refine lv_iload hx hb dL_acts_128 (lv_at hl 4 rfl) ?_
    refine lv_iload hx hb dL_acts_130 (lv_at hl 5 rfl) ?_
    refine lv_iadd hx hb dL_acts_132 ?_
    refine lv_bipush (v := 81) hx hb dL_acts_133 (by decide) ?_
    refine lv_icmp_le (tgt := 153) hx hb dL_acts_135 (by decide) (fun c21 => ?_) (fun c21 => ?_)
    · have hsp := itT hsp c21
      refine lv_iload hx hb dL_acts_153 (lv_at hl 0 rfl) ?_
      refine lv_iload hx hb dL_acts_155 (lv_at hl 4 rfl) ?_
      refine lv_iload hx hb dL_acts_157 (lv_at hl 5 rfl) ?_
      refine lv_iadd hx hb dL_acts_159 ?_
      refine lv_icmp_ne (tgt := 182) hx hb dL_acts_160 (by decide) (fun c22 => ?_) (fun c22 => ?_)
      · have hsp := itF hsp c22
        cases hsp
      have hsp := itT hsp c22
      refine lv_aload_n hx hb dL_acts_163 rfl (lv_at hl 8 rfl) ?_
      refine lv_iload_n hx hb dL_acts_164 rfl (lv_at hl 7 rfl) ?_
      refine lv_iload hx hb dL_acts_165 (lv_at hl 2 rfl) ?_
      obtain ⟨r23, hcr23, hsp⟩ := clE hsp
      refine call_o (As := [.int x1, .int x18]) (rest := []) (KO_pot (l := l) (D := D) (cI := cI) (cZ := cZ) (cC := cC) (cS := cS) (oa := oa) hcr23) hKU hW hS hA ⟨hx, hb, hml, hown, hts⟩ (cwV 2 hts gL_acts_X4_pot rfl rfl rfl nd_X4_pot ⟨Nat.le_of_ble_eq_true rfl, Nat.le_of_ble_eq_true rfl⟩) rfl hl.1 rfl (Nat.le_of_ble_eq_true rfl) dL_acts_167 ⟨Nat.le_of_ble_eq_true rfl, Nat.le_of_ble_eq_true rfl⟩ (fun H locs hW hS => ?_)
      refine lv_iload hx hb dL_acts_170 (lv_at hl 1 rfl) ?_
      refine lv_iload hx hb dL_acts_172 (lv_at hl 5 rfl) ?_
      refine lv_iadd hx hb dL_acts_174 ?_
      refine lv_icmp_ne (tgt := 182) hx hb dL_acts_175 (by decide) (fun c24 => ?_) (fun c24 => ?_)
      · have hsp := itF hsp c24
        cases hsp
      have hsp := itT hsp c24
      refine lv_iconst (v := 1) hx hb dL_acts_178 (by decide) ?_
      refine lv_goto (tgt := 183) hx hb dL_acts_179 (by decide) ?_
      have hres := Option.some.inj hsp
      subst hres
      exact W.zret (v := 1) hx hb hr (zE (Or.inr rfl)) (fun t ht _ => ⟨⟨1, (), rfl, ⟨rfl, (Or.inr rfl)⟩, W_at ht hW⟩, hS.F ht⟩) hS.2.2 dL_acts_183
    have hsp := itF hsp c21
    refine lv_iload hx hb dL_acts_138 (lv_at hl 0 rfl) ?_
    refine lv_bipush (v := (-4)) hx hb dL_acts_140 (by decide) ?_
    refine lv_icmp_ne (tgt := 149) hx hb dL_acts_142 (by decide) (fun c25 => ?_) (fun c25 => ?_)
    · have hsp := itF hsp c25
      cases hsp
    have hsp := itT hsp c25
    refine lv_iconst (v := 1) hx hb dL_acts_145 (by decide) ?_
    refine lv_goto (tgt := 183) hx hb dL_acts_146 (by decide) ?_
    have hres := Option.some.inj hsp
    subst hres
    exact W.zret (v := 1) hx hb hr (zE (Or.inr rfl)) (fun t ht _ => ⟨⟨1, (), rfl, ⟨rfl, (Or.inr rfl)⟩, W_at ht hW⟩, hS.F ht⟩) hS.2.2 dL_acts_183
  have hsp := itF hsp c17
  by_cases c26 : x7 = 2
  · have hsp := itT hsp c26
    refine lv_tableIn (off := 55) (tgt := 100) hx hb dL_acts_45 (by rw [c26]; decide) (by rw [c26]; decide) (by rw [c26]; decide) (by decide) ?_
    refine lv_iload_n hx hb dL_acts_100 rfl (lv_at hl 6 rfl) ?_
    refine lv_bipush (v := 15) hx hb dL_acts_101 (by decide) ?_
    refine lv_ishr hx hb dL_acts_103 ?_
    refine lv_iconst (v := 4) hx hb dL_acts_104 (by decide) ?_
    obtain ⟨x27, ex27, hnx27, hsp⟩ := rmdE hsp
    refine lv_irem hx hb dL_acts_105 hnx27 ?_
    refine r_top ex27 ?_
    refine lv_istore (lv' := [(7, .int x27), (6, .int r6), (5, .int r5), (4, .int x4), (3, .int x2), (2, .int x1), (0, .ref oa), (1, .int u1)]) hx hb dL_acts_106 hl (by decide) rfl (fun ls hl => ?_)
    refine lv_aload_n hx hb dL_acts_108 rfl (lv_at hl 6 rfl) ?_
    refine lv_iload_n hx hb dL_acts_109 rfl (lv_at hl 5 rfl) ?_
    refine lv_iload hx hb dL_acts_110 (lv_at hl 0 rfl) ?_
    obtain ⟨r28, hcr28, hsp⟩ := clE hsp
    refine call_o (As := [.int x1, .int x27]) (rest := []) (KO_pot (l := l) (D := D) (cI := cI) (cZ := cZ) (cC := cC) (cS := cS) (oa := oa) hcr28) hKU hW hS hA ⟨hx, hb, hml, hown, hts⟩ (cwV 2 hts gL_acts_X4_pot rfl rfl rfl nd_X4_pot ⟨Nat.le_of_ble_eq_true rfl, Nat.le_of_ble_eq_true rfl⟩) rfl hl.1 rfl (Nat.le_of_ble_eq_true rfl) dL_acts_112 ⟨Nat.le_of_ble_eq_true rfl, Nat.le_of_ble_eq_true rfl⟩ (fun H locs hW hS => ?_)
    refine lv_istore (lv' := [(8, .int r28), (7, .int x27), (6, .int r6), (5, .int r5), (4, .int x4), (3, .int x2), (2, .int x1), (0, .ref oa), (1, .int u1)]) hx hb dL_acts_115 hl (by decide) rfl (fun ls hl => ?_)
    refine lv_aload_n hx hb dL_acts_117 rfl (lv_at hl 7 rfl) ?_
    refine lv_iload_n hx hb dL_acts_118 rfl (lv_at hl 6 rfl) ?_
    refine lv_iload hx hb dL_acts_119 (lv_at hl 1 rfl) ?_
    refine lv_iload hx hb dL_acts_121 (lv_at hl 4 rfl) ?_
    obtain ⟨r29, hcr29, hsp⟩ := clE hsp
    refine call_o (As := [.int x1, .int x27, .int x4]) (rest := []) (KO_fill (l := l) (D := D) (cI := cI) (cZ := cZ) (cC := cC) (cS := cS) (oa := oa) hcr29) hKU hW hS hA ⟨hx, hb, hml, hown, hts⟩ (cwV 3 hts gL_acts_X4_fill rfl rfl rfl nd_X4_fill ⟨Nat.le_of_ble_eq_true rfl, Nat.le_of_ble_eq_true rfl⟩) rfl hl.1 rfl (Nat.le_of_ble_eq_true rfl) dL_acts_123 ⟨Nat.le_of_ble_eq_true rfl, Nat.le_of_ble_eq_true rfl⟩ (fun H locs hW hS => ?_)
    have hW : WD D cI cS A oa r29.2 H := hW
    refine lv_istore (lv' := [(9, .int r29.1), (8, .int r28), (7, .int x27), (6, .int r6), (5, .int r5), (4, .int x4), (3, .int x2), (2, .int x1), (0, .ref oa), (1, .int u1)]) hx hb dL_acts_126 hl (by decide) rfl (fun ls hl => ?_)
    refine lv_iload hx hb dL_acts_128 (lv_at hl 4 rfl) ?_
    refine lv_iload hx hb dL_acts_130 (lv_at hl 5 rfl) ?_
    refine lv_iadd hx hb dL_acts_132 ?_
    refine lv_bipush (v := 81) hx hb dL_acts_133 (by decide) ?_
    refine lv_icmp_le (tgt := 153) hx hb dL_acts_135 (by decide) (fun c30 => ?_) (fun c30 => ?_)
    · have hsp := itT hsp c30
      refine lv_iload hx hb dL_acts_153 (lv_at hl 0 rfl) ?_
      refine lv_iload hx hb dL_acts_155 (lv_at hl 4 rfl) ?_
      refine lv_iload hx hb dL_acts_157 (lv_at hl 5 rfl) ?_
      refine lv_iadd hx hb dL_acts_159 ?_
      refine lv_icmp_ne (tgt := 182) hx hb dL_acts_160 (by decide) (fun c31 => ?_) (fun c31 => ?_)
      · have hsp := itF hsp c31
        cases hsp
      have hsp := itT hsp c31
      refine lv_aload_n hx hb dL_acts_163 rfl (lv_at hl 8 rfl) ?_
      refine lv_iload_n hx hb dL_acts_164 rfl (lv_at hl 7 rfl) ?_
      refine lv_iload hx hb dL_acts_165 (lv_at hl 2 rfl) ?_
      obtain ⟨r32, hcr32, hsp⟩ := clE hsp
      refine call_o (As := [.int x1, .int x27]) (rest := []) (KO_pot (l := l) (D := D) (cI := cI) (cZ := cZ) (cC := cC) (cS := cS) (oa := oa) hcr32) hKU hW hS hA ⟨hx, hb, hml, hown, hts⟩ (cwV 2 hts gL_acts_X4_pot rfl rfl rfl nd_X4_pot ⟨Nat.le_of_ble_eq_true rfl, Nat.le_of_ble_eq_true rfl⟩) rfl hl.1 rfl (Nat.le_of_ble_eq_true rfl) dL_acts_167 ⟨Nat.le_of_ble_eq_true rfl, Nat.le_of_ble_eq_true rfl⟩ (fun H locs hW hS => ?_)
      refine lv_iload hx hb dL_acts_170 (lv_at hl 1 rfl) ?_
      refine lv_iload hx hb dL_acts_172 (lv_at hl 5 rfl) ?_
      refine lv_iadd hx hb dL_acts_174 ?_
      refine lv_icmp_ne (tgt := 182) hx hb dL_acts_175 (by decide) (fun c33 => ?_) (fun c33 => ?_)
      · have hsp := itF hsp c33
        cases hsp
      have hsp := itT hsp c33
      refine lv_iconst (v := 1) hx hb dL_acts_178 (by decide) ?_
      refine lv_goto (tgt := 183) hx hb dL_acts_179 (by decide) ?_
      have hres := Option.some.inj hsp
      subst hres
      exact W.zret (v := 1) hx hb hr (zE (Or.inr rfl)) (fun t ht _ => ⟨⟨1, (), rfl, ⟨rfl, (Or.inr rfl)⟩, W_at ht hW⟩, hS.F ht⟩) hS.2.2 dL_acts_183
    have hsp := itF hsp c30
    refine lv_iload hx hb dL_acts_138 (lv_at hl 0 rfl) ?_
    refine lv_bipush (v := (-4)) hx hb dL_acts_140 (by decide) ?_
    refine lv_icmp_ne (tgt := 149) hx hb dL_acts_142 (by decide) (fun c34 => ?_) (fun c34 => ?_)
    · have hsp := itF hsp c34
      cases hsp
    have hsp := itT hsp c34
    refine lv_iconst (v := 1) hx hb dL_acts_145 (by decide) ?_
    refine lv_goto (tgt := 183) hx hb dL_acts_146 (by decide) ?_
    have hres := Option.some.inj hsp
    subst hres
    exact W.zret (v := 1) hx hb hr (zE (Or.inr rfl)) (fun t ht _ => ⟨⟨1, (), rfl, ⟨rfl, (Or.inr rfl)⟩, W_at ht hW⟩, hS.F ht⟩) hS.2.2 dL_acts_183
  have hsp := itF hsp c26
  by_cases c35 : x7 = 3
  · have hsp := itT hsp c35
    refine lv_tableIn (off := 139) (tgt := 184) hx hb dL_acts_45 (by rw [c35]; decide) (by rw [c35]; decide) (by rw [c35]; decide) (by decide) ?_
    refine lv_aload_n hx hb dL_acts_184 rfl (lv_at hl 5 rfl) ?_
    refine lv_iload_n hx hb dL_acts_185 rfl (lv_at hl 4 rfl) ?_
    refine lv_iconst (v := 3) hx hb dL_acts_186 (by decide) ?_
    obtain ⟨r36, hcr36, hsp⟩ := clE hsp
    refine call_o (As := [.int x1, .int 3]) (rest := []) (KO_pot (l := l) (D := D) (cI := cI) (cZ := cZ) (cC := cC) (cS := cS) (oa := oa) hcr36) hKU hW hS hA ⟨hx, hb, hml, hown, hts⟩ (cwV 2 hts gL_acts_X4_pot rfl rfl rfl nd_X4_pot ⟨Nat.le_of_ble_eq_true rfl, Nat.le_of_ble_eq_true rfl⟩) rfl hl.1 rfl (Nat.le_of_ble_eq_true rfl) dL_acts_187 ⟨Nat.le_of_ble_eq_true rfl, Nat.le_of_ble_eq_true rfl⟩ (fun H locs hW hS => ?_)
    refine lv_istore (lv' := [(10, .int r36), (6, .int r6), (5, .int r5), (4, .int x4), (3, .int x2), (2, .int x1), (0, .ref oa), (1, .int u1)]) hx hb dL_acts_190 hl (by decide) rfl (fun ls hl => ?_)
    refine lv_aload_n hx hb dL_acts_192 rfl (lv_at hl 6 rfl) ?_
    refine lv_iload_n hx hb dL_acts_193 rfl (lv_at hl 5 rfl) ?_
    refine lv_bipush (v := 8) hx hb dL_acts_194 (by decide) ?_
    obtain ⟨r37, hcr37, hsp⟩ := clE hsp
    refine call_o (As := [.int x1, .int 8]) (rest := []) (KO_pot (l := l) (D := D) (cI := cI) (cZ := cZ) (cC := cC) (cS := cS) (oa := oa) hcr37) hKU hW hS hA ⟨hx, hb, hml, hown, hts⟩ (cwV 2 hts gL_acts_X4_pot rfl rfl rfl nd_X4_pot ⟨Nat.le_of_ble_eq_true rfl, Nat.le_of_ble_eq_true rfl⟩) rfl hl.1 rfl (Nat.le_of_ble_eq_true rfl) dL_acts_196 ⟨Nat.le_of_ble_eq_true rfl, Nat.le_of_ble_eq_true rfl⟩ (fun H locs hW hS => ?_)
    refine lv_istore (lv' := [(11, .int r37), (10, .int r36), (6, .int r6), (5, .int r5), (4, .int x4), (3, .int x2), (2, .int x1), (0, .ref oa), (1, .int u1)]) hx hb dL_acts_199 hl (by decide) rfl (fun ls hl => ?_)
    refine lv_aload_n hx hb dL_acts_201 rfl (lv_at hl 7 rfl) ?_
    refine lv_iload_n hx hb dL_acts_202 rfl (lv_at hl 6 rfl) ?_
    obtain ⟨r38, hcr38, hsp⟩ := clE hsp
    refine call_o (As := [.int x1]) (rest := []) (KO_thin (l := l) (D := D) (cI := cI) (cZ := cZ) (cC := cC) (cS := cS) (oa := oa) hcr38) hKU hW hS hA ⟨hx, hb, hml, hown, hts⟩ (cwV 1 hts gL_acts_X4_thin rfl rfl rfl nd_X4_thin ⟨Nat.le_of_ble_eq_true rfl, Nat.le_of_ble_eq_true rfl⟩) rfl hl.1 rfl (Nat.le_of_ble_eq_true rfl) dL_acts_203 ⟨Nat.le_of_ble_eq_true rfl, Nat.le_of_ble_eq_true rfl⟩ (fun H locs hW hS => ?_)
    have hW : WD D cI cS A oa r38.2 H := hW
    refine lv_istore (lv' := [(12, .int r38.1), (11, .int r37), (10, .int r36), (6, .int r6), (5, .int r5), (4, .int x4), (3, .int x2), (2, .int x1), (0, .ref oa), (1, .int u1)]) hx hb dL_acts_206 hl (by decide) rfl (fun ls hl => ?_)
    refine lv_iload hx hb dL_acts_208 (lv_at hl 4 rfl) ?_
    refine lv_if_ne (tgt := 228) hx hb dL_acts_210 (by decide) (fun c39 => ?_) (fun c39 => ?_)
    · have hsp := itF hsp c39
      refine lv_iconst (v := 3) hx hb dL_acts_228 (by decide) ?_
      refine lv_iload hx hb dL_acts_229 (lv_at hl 4 rfl) ?_
      refine lv_imul hx hb dL_acts_231 ?_
      refine lv_bipush (v := 81) hx hb dL_acts_232 (by decide) ?_
      refine lv_icmp_le (tgt := 252) hx hb dL_acts_234 (by decide) (fun c40 => ?_) (fun c40 => ?_)
      · have hsp := itT hsp c40
        refine lv_iload hx hb dL_acts_252 (lv_at hl 0 rfl) ?_
        refine lv_iconst (v := 3) hx hb dL_acts_254 (by decide) ?_
        refine lv_iload hx hb dL_acts_255 (lv_at hl 4 rfl) ?_
        refine lv_imul hx hb dL_acts_257 ?_
        refine lv_icmp_ne (tgt := 295) hx hb dL_acts_258 (by decide) (fun c41 => ?_) (fun c41 => ?_)
        · have hsp := itF hsp c41
          cases hsp
        have hsp := itT hsp c41
        refine lv_aload_n hx hb dL_acts_261 rfl (lv_at hl 8 rfl) ?_
        refine lv_iload_n hx hb dL_acts_262 rfl (lv_at hl 7 rfl) ?_
        refine lv_iconst (v := 3) hx hb dL_acts_263 (by decide) ?_
        obtain ⟨r42, hcr42, hsp⟩ := clE hsp
        refine call_o (As := [.int x1, .int 3]) (rest := []) (KO_pot (l := l) (D := D) (cI := cI) (cZ := cZ) (cC := cC) (cS := cS) (oa := oa) hcr42) hKU hW hS hA ⟨hx, hb, hml, hown, hts⟩ (cwV 2 hts gL_acts_X4_pot rfl rfl rfl nd_X4_pot ⟨Nat.le_of_ble_eq_true rfl, Nat.le_of_ble_eq_true rfl⟩) rfl hl.1 rfl (Nat.le_of_ble_eq_true rfl) dL_acts_264 ⟨Nat.le_of_ble_eq_true rfl, Nat.le_of_ble_eq_true rfl⟩ (fun H locs hW hS => ?_)
        refine lv_iload hx hb dL_acts_267 (lv_at hl 2 rfl) ?_
        refine lv_iconst (v := 2) hx hb dL_acts_269 (by decide) ?_
        refine lv_iload hx hb dL_acts_270 (lv_at hl 4 rfl) ?_
        refine lv_imul hx hb dL_acts_272 ?_
        refine lv_iadd hx hb dL_acts_273 ?_
        refine lv_icmp_ne (tgt := 295) hx hb dL_acts_274 (by decide) (fun c43 => ?_) (fun c43 => ?_)
        · have hsp := itF hsp c43
          cases hsp
        have hsp := itT hsp c43
        refine lv_aload_n hx hb dL_acts_277 rfl (lv_at hl 8 rfl) ?_
        refine lv_iload_n hx hb dL_acts_278 rfl (lv_at hl 7 rfl) ?_
        refine lv_bipush (v := 8) hx hb dL_acts_279 (by decide) ?_
        obtain ⟨r44, hcr44, hsp⟩ := clE hsp
        refine call_o (As := [.int x1, .int 8]) (rest := []) (KO_pot (l := l) (D := D) (cI := cI) (cZ := cZ) (cC := cC) (cS := cS) (oa := oa) hcr44) hKU hW hS hA ⟨hx, hb, hml, hown, hts⟩ (cwV 2 hts gL_acts_X4_pot rfl rfl rfl nd_X4_pot ⟨Nat.le_of_ble_eq_true rfl, Nat.le_of_ble_eq_true rfl⟩) rfl hl.1 rfl (Nat.le_of_ble_eq_true rfl) dL_acts_281 ⟨Nat.le_of_ble_eq_true rfl, Nat.le_of_ble_eq_true rfl⟩ (fun H locs hW hS => ?_)
        refine lv_iload hx hb dL_acts_284 (lv_at hl 1 rfl) ?_
        refine lv_iconst (v := 1) hx hb dL_acts_286 (by decide) ?_
        refine lv_iadd hx hb dL_acts_287 ?_
        refine lv_icmp_ne (tgt := 295) hx hb dL_acts_288 (by decide) (fun c45 => ?_) (fun c45 => ?_)
        · have hsp := itF hsp c45
          cases hsp
        have hsp := itT hsp c45
        refine lv_iconst (v := 1) hx hb dL_acts_291 (by decide) ?_
        refine lv_goto (tgt := 296) hx hb dL_acts_292 (by decide) ?_
        have hres := Option.some.inj hsp
        subst hres
        exact W.zret (v := 1) hx hb hr (zE (Or.inr rfl)) (fun t ht _ => ⟨⟨1, (), rfl, ⟨rfl, (Or.inr rfl)⟩, W_at ht hW⟩, hS.F ht⟩) hS.2.2 dL_acts_296
      have hsp := itF hsp c40
      refine lv_iload hx hb dL_acts_237 (lv_at hl 0 rfl) ?_
      refine lv_bipush (v := (-4)) hx hb dL_acts_239 (by decide) ?_
      refine lv_icmp_ne (tgt := 248) hx hb dL_acts_241 (by decide) (fun c46 => ?_) (fun c46 => ?_)
      · have hsp := itF hsp c46
        cases hsp
      have hsp := itT hsp c46
      refine lv_iconst (v := 1) hx hb dL_acts_244 (by decide) ?_
      refine lv_goto (tgt := 296) hx hb dL_acts_245 (by decide) ?_
      have hres := Option.some.inj hsp
      subst hres
      exact W.zret (v := 1) hx hb hr (zE (Or.inr rfl)) (fun t ht _ => ⟨⟨1, (), rfl, ⟨rfl, (Or.inr rfl)⟩, W_at ht hW⟩, hS.F ht⟩) hS.2.2 dL_acts_296
    have hsp := itT hsp c39
    refine lv_iload hx hb dL_acts_213 (lv_at hl 0 rfl) ?_
    refine lv_bipush (v := (-5)) hx hb dL_acts_215 (by decide) ?_
    refine lv_icmp_ne (tgt := 224) hx hb dL_acts_217 (by decide) (fun c47 => ?_) (fun c47 => ?_)
    · have hsp := itF hsp c47
      cases hsp
    have hsp := itT hsp c47
    refine lv_iconst (v := 1) hx hb dL_acts_220 (by decide) ?_
    refine lv_goto (tgt := 296) hx hb dL_acts_221 (by decide) ?_
    have hres := Option.some.inj hsp
    subst hres
    exact W.zret (v := 1) hx hb hr (zE (Or.inr rfl)) (fun t ht _ => ⟨⟨1, (), rfl, ⟨rfl, (Or.inr rfl)⟩, W_at ht hW⟩, hS.F ht⟩) hS.2.2 dL_acts_296
  have hsp := itF hsp c35
  by_cases c48 : x7 = 4
  · have hsp := itT hsp c48
    refine lv_tableIn (off := 252) (tgt := 297) hx hb dL_acts_45 (by rw [c48]; decide) (by rw [c48]; decide) (by rw [c48]; decide) (by decide) ?_
    refine lv_aload_n hx hb dL_acts_297 rfl (lv_at hl 5 rfl) ?_
    refine lv_iload_n hx hb dL_acts_298 rfl (lv_at hl 3 rfl) ?_
    refine lv_iconst (v := 4) hx hb dL_acts_299 (by decide) ?_
    obtain ⟨r49, hcr49, hsp⟩ := clE hsp
    refine call_o (As := [.int x2, .int 4]) (rest := []) (KO_pot (l := l) (D := D) (cI := cI) (cZ := cZ) (cC := cC) (cS := cS) (oa := oa) hcr49) hKU hW hS hA ⟨hx, hb, hml, hown, hts⟩ (cwV 2 hts gL_acts_X4_pot rfl rfl rfl nd_X4_pot ⟨Nat.le_of_ble_eq_true rfl, Nat.le_of_ble_eq_true rfl⟩) rfl hl.1 rfl (Nat.le_of_ble_eq_true rfl) dL_acts_300 ⟨Nat.le_of_ble_eq_true rfl, Nat.le_of_ble_eq_true rfl⟩ (fun H locs hW hS => ?_)
    refine lv_istore (lv' := [(13, .int r49), (6, .int r6), (5, .int r5), (4, .int x4), (3, .int x2), (2, .int x1), (0, .ref oa), (1, .int u1)]) hx hb dL_acts_303 hl (by decide) rfl (fun ls hl => ?_)
    refine lv_aload_n hx hb dL_acts_305 rfl (lv_at hl 6 rfl) ?_
    refine lv_iload_n hx hb dL_acts_306 rfl (lv_at hl 5 rfl) ?_
    refine lv_iconst (v := 0) hx hb dL_acts_307 (by decide) ?_
    obtain ⟨r50, hcr50, hsp⟩ := clE hsp
    refine call_o (As := [.int x1, .int 0]) (rest := []) (KO_pot (l := l) (D := D) (cI := cI) (cZ := cZ) (cC := cC) (cS := cS) (oa := oa) hcr50) hKU hW hS hA ⟨hx, hb, hml, hown, hts⟩ (cwV 2 hts gL_acts_X4_pot rfl rfl rfl nd_X4_pot ⟨Nat.le_of_ble_eq_true rfl, Nat.le_of_ble_eq_true rfl⟩) rfl hl.1 rfl (Nat.le_of_ble_eq_true rfl) dL_acts_308 ⟨Nat.le_of_ble_eq_true rfl, Nat.le_of_ble_eq_true rfl⟩ (fun H locs hW hS => ?_)
    refine lv_istore (lv' := [(14, .int r50), (13, .int r49), (6, .int r6), (5, .int r5), (4, .int x4), (3, .int x2), (2, .int x1), (0, .ref oa), (1, .int u1)]) hx hb dL_acts_311 hl (by decide) rfl (fun ls hl => ?_)
    refine lv_aload_n hx hb dL_acts_313 rfl (lv_at hl 7 rfl) ?_
    refine lv_iload_n hx hb dL_acts_314 rfl (lv_at hl 5 rfl) ?_
    refine lv_iconst (v := 0) hx hb dL_acts_315 (by decide) ?_
    obtain ⟨r51, hcr51, hsp⟩ := clE hsp
    refine call_o (As := [.int x2, .int 0]) (rest := []) (KO_pot (l := l) (D := D) (cI := cI) (cZ := cZ) (cC := cC) (cS := cS) (oa := oa) hcr51) hKU hW hS hA ⟨hx, hb, hml, hown, hts⟩ (cwV 2 hts gL_acts_X4_pot rfl rfl rfl nd_X4_pot ⟨Nat.le_of_ble_eq_true rfl, Nat.le_of_ble_eq_true rfl⟩) rfl hl.1 rfl (Nat.le_of_ble_eq_true rfl) dL_acts_316 ⟨Nat.le_of_ble_eq_true rfl, Nat.le_of_ble_eq_true rfl⟩ (fun H locs hW hS => ?_)
    refine lv_istore (lv' := [(15, .int r51), (14, .int r50), (13, .int r49), (6, .int r6), (5, .int r5), (4, .int x4), (3, .int x2), (2, .int x1), (0, .ref oa), (1, .int u1)]) hx hb dL_acts_319 hl (by decide) rfl (fun ls hl => ?_)
    refine lv_aload_n hx hb dL_acts_321 rfl (lv_at hl 8 rfl) ?_
    refine lv_iload_n hx hb dL_acts_322 rfl (lv_at hl 7 rfl) ?_
    refine lv_iload_n hx hb dL_acts_323 rfl (lv_at hl 6 rfl) ?_
    refine lv_iload hx hb dL_acts_324 (lv_at hl 5 rfl) ?_
    obtain ⟨r52, hcr52, hsp⟩ := clE hsp
    refine call_o (As := [.int x1, .int x2, .int x4]) (rest := []) (KO_pour (l := l) (D := D) (cI := cI) (cZ := cZ) (cC := cC) (cS := cS) (oa := oa) hcr52) hKU hW hS hA ⟨hx, hb, hml, hown, hts⟩ (cwV 3 hts gL_acts_X4_pour rfl rfl rfl nd_X4_pour ⟨Nat.le_of_ble_eq_true rfl, Nat.le_of_ble_eq_true rfl⟩) rfl hl.1 rfl (Nat.le_of_ble_eq_true rfl) dL_acts_326 ⟨Nat.le_of_ble_eq_true rfl, Nat.le_of_ble_eq_true rfl⟩ (fun H locs hW hS => ?_)
    have hW : WD D cI cS A oa r52.2 H := hW
    refine lv_istore (lv' := [(16, .int r52.1), (15, .int r51), (14, .int r50), (13, .int r49), (6, .int r6), (5, .int r5), (4, .int x4), (3, .int x2), (2, .int x1), (0, .ref oa), (1, .int u1)]) hx hb dL_acts_329 hl (by decide) rfl (fun ls hl => ?_)
    refine lv_iload_n hx hb dL_acts_331 rfl (lv_at hl 8 rfl) ?_
    refine lv_iload_n hx hb dL_acts_332 rfl (lv_at hl 7 rfl) ?_
    refine lv_icmp_ne (tgt := 351) hx hb dL_acts_333 (by decide) (fun c53 => ?_) (fun c53 => ?_)
    · have hsp := itF hsp c53
      refine lv_iload hx hb dL_acts_351 (lv_at hl 5 rfl) ?_
      refine lv_iload hx hb dL_acts_353 (lv_at hl 6 rfl) ?_
      refine lv_icmp_ge (tgt := 373) hx hb dL_acts_355 (by decide) (fun c54 => ?_) (fun c54 => ?_)
      · have hsp := itT hsp c54
        refine lv_iload hx hb dL_acts_373 (lv_at hl 3 rfl) ?_
        refine lv_iload hx hb dL_acts_375 (lv_at hl 6 rfl) ?_
        refine lv_iadd hx hb dL_acts_377 ?_
        refine lv_bipush (v := 81) hx hb dL_acts_378 (by decide) ?_
        refine lv_icmp_le (tgt := 398) hx hb dL_acts_380 (by decide) (fun c55 => ?_) (fun c55 => ?_)
        · have hsp := itT hsp c55
          refine lv_iload hx hb dL_acts_398 (lv_at hl 0 rfl) ?_
          refine lv_iload hx hb dL_acts_400 (lv_at hl 3 rfl) ?_
          refine lv_iload hx hb dL_acts_402 (lv_at hl 6 rfl) ?_
          refine lv_iadd hx hb dL_acts_404 ?_
          refine lv_icmp_ne (tgt := 490) hx hb dL_acts_405 (by decide) (fun c56 => ?_) (fun c56 => ?_)
          · have hsp := itF hsp c56
            cases hsp
          have hsp := itT hsp c56
          refine lv_aload_n hx hb dL_acts_408 rfl (lv_at hl 9 rfl) ?_
          refine lv_iload_n hx hb dL_acts_409 rfl (lv_at hl 8 rfl) ?_
          refine lv_iconst (v := 4) hx hb dL_acts_410 (by decide) ?_
          obtain ⟨r57, hcr57, hsp⟩ := clE hsp
          refine call_o (As := [.int x1, .int 4]) (rest := []) (KO_pot (l := l) (D := D) (cI := cI) (cZ := cZ) (cC := cC) (cS := cS) (oa := oa) hcr57) hKU hW hS hA ⟨hx, hb, hml, hown, hts⟩ (cwV 2 hts gL_acts_X4_pot rfl rfl rfl nd_X4_pot ⟨Nat.le_of_ble_eq_true rfl, Nat.le_of_ble_eq_true rfl⟩) rfl hl.1 rfl (Nat.le_of_ble_eq_true rfl) dL_acts_411 ⟨Nat.le_of_ble_eq_true rfl, Nat.le_of_ble_eq_true rfl⟩ (fun H locs hW hS => ?_)
          refine lv_iload hx hb dL_acts_414 (lv_at hl 5 rfl) ?_
          refine lv_iload hx hb dL_acts_416 (lv_at hl 6 rfl) ?_
          refine lv_isub hx hb dL_acts_418 ?_
          refine lv_icmp_ne (tgt := 490) hx hb dL_acts_419 (by decide) (fun c58 => ?_) (fun c58 => ?_)
          · have hsp := itF hsp c58
            cases hsp
          have hsp := itT hsp c58
          refine lv_aload_n hx hb dL_acts_422 rfl (lv_at hl 9 rfl) ?_
          refine lv_iload_n hx hb dL_acts_423 rfl (lv_at hl 8 rfl) ?_
          refine lv_iconst (v := 0) hx hb dL_acts_424 (by decide) ?_
          obtain ⟨r59, hcr59, hsp⟩ := clE hsp
          refine call_o (As := [.int x1, .int 0]) (rest := []) (KO_pot (l := l) (D := D) (cI := cI) (cZ := cZ) (cC := cC) (cS := cS) (oa := oa) hcr59) hKU hW hS hA ⟨hx, hb, hml, hown, hts⟩ (cwV 2 hts gL_acts_X4_pot rfl rfl rfl nd_X4_pot ⟨Nat.le_of_ble_eq_true rfl, Nat.le_of_ble_eq_true rfl⟩) rfl hl.1 rfl (Nat.le_of_ble_eq_true rfl) dL_acts_425 ⟨Nat.le_of_ble_eq_true rfl, Nat.le_of_ble_eq_true rfl⟩ (fun H locs hW hS => ?_)
          refine lv_aload_n hx hb dL_acts_428 rfl (lv_at hl 9 rfl) ?_
          refine lv_iload_n hx hb dL_acts_429 rfl (lv_at hl 7 rfl) ?_
          refine lv_iconst (v := 0) hx hb dL_acts_430 (by decide) ?_
          obtain ⟨r60, hcr60, hsp⟩ := clE hsp
          refine call_o (As := [.int x2, .int 0]) (rest := [.int r59]) (KO_pot (l := l) (D := D) (cI := cI) (cZ := cZ) (cC := cC) (cS := cS) (oa := oa) hcr60) hKU hW hS hA ⟨hx, hb, hml, hown, hts⟩ (cwV 2 hts gL_acts_X4_pot rfl rfl rfl nd_X4_pot ⟨Nat.le_of_ble_eq_true rfl, Nat.le_of_ble_eq_true rfl⟩) rfl hl.1 rfl (Nat.le_of_ble_eq_true rfl) dL_acts_431 ⟨Nat.le_of_ble_eq_true rfl, Nat.le_of_ble_eq_true rfl⟩ (fun H locs hW hS => ?_)
          refine lv_iadd hx hb dL_acts_434 ?_
          refine lv_iload hx hb dL_acts_435 (lv_at hl 2 rfl) ?_
          refine lv_iload hx hb dL_acts_437 (lv_at hl 1 rfl) ?_
          refine lv_iadd hx hb dL_acts_439 ?_
          refine lv_icmp_ne (tgt := 490) hx hb dL_acts_440 (by decide) (fun c61 => ?_) (fun c61 => ?_)
          · have hsp := itF hsp c61
            cases hsp
          have hsp := itT hsp c61
          refine lv_aload_n hx hb dL_acts_443 rfl (lv_at hl 9 rfl) ?_
          refine lv_iload_n hx hb dL_acts_444 rfl (lv_at hl 7 rfl) ?_
          refine lv_iconst (v := 0) hx hb dL_acts_445 (by decide) ?_
          obtain ⟨r62, hcr62, hsp⟩ := clE hsp
          refine call_o (As := [.int x2, .int 0]) (rest := []) (KO_pot (l := l) (D := D) (cI := cI) (cZ := cZ) (cC := cC) (cS := cS) (oa := oa) hcr62) hKU hW hS hA ⟨hx, hb, hml, hown, hts⟩ (cwV 2 hts gL_acts_X4_pot rfl rfl rfl nd_X4_pot ⟨Nat.le_of_ble_eq_true rfl, Nat.le_of_ble_eq_true rfl⟩) rfl hl.1 rfl (Nat.le_of_ble_eq_true rfl) dL_acts_446 ⟨Nat.le_of_ble_eq_true rfl, Nat.le_of_ble_eq_true rfl⟩ (fun H locs hW hS => ?_)
          refine lv_iload hx hb dL_acts_449 (lv_at hl 1 rfl) ?_
          refine lv_isub hx hb dL_acts_451 ?_
          refine lv_iload hx hb dL_acts_452 (lv_at hl 2 rfl) ?_
          refine lv_iload hx hb dL_acts_454 (lv_at hl 6 rfl) ?_
          refine lv_imul hx hb dL_acts_456 ?_
          refine lv_iload hx hb dL_acts_457 (lv_at hl 5 rfl) ?_
          obtain ⟨x63, ex63, hnx63, hsp⟩ := dvE hsp
          refine lv_idiv hx hb dL_acts_459 hnx63 ?_
          refine r_top ex63 ?_
          refine lv_isub hx hb dL_acts_460 ?_
          refine lv_if_lt (tgt := 490) hx hb dL_acts_461 (by decide) (fun c64 => ?_) (fun c64 => ?_)
          · have hsp := itT hsp c64
            cases hsp
          have hsp := itF hsp c64
          refine lv_aload_n hx hb dL_acts_464 rfl (lv_at hl 9 rfl) ?_
          refine lv_iload_n hx hb dL_acts_465 rfl (lv_at hl 7 rfl) ?_
          refine lv_iconst (v := 0) hx hb dL_acts_466 (by decide) ?_
          obtain ⟨r65, hcr65, hsp⟩ := clE hsp
          refine call_o (As := [.int x2, .int 0]) (rest := []) (KO_pot (l := l) (D := D) (cI := cI) (cZ := cZ) (cC := cC) (cS := cS) (oa := oa) hcr65) hKU hW hS hA ⟨hx, hb, hml, hown, hts⟩ (cwV 2 hts gL_acts_X4_pot rfl rfl rfl nd_X4_pot ⟨Nat.le_of_ble_eq_true rfl, Nat.le_of_ble_eq_true rfl⟩) rfl hl.1 rfl (Nat.le_of_ble_eq_true rfl) dL_acts_467 ⟨Nat.le_of_ble_eq_true rfl, Nat.le_of_ble_eq_true rfl⟩ (fun H locs hW hS => ?_)
          refine lv_iload hx hb dL_acts_470 (lv_at hl 1 rfl) ?_
          refine lv_isub hx hb dL_acts_472 ?_
          refine lv_iload hx hb dL_acts_473 (lv_at hl 2 rfl) ?_
          refine lv_iload hx hb dL_acts_475 (lv_at hl 6 rfl) ?_
          refine lv_imul hx hb dL_acts_477 ?_
          refine lv_iload hx hb dL_acts_478 (lv_at hl 5 rfl) ?_
          obtain ⟨x66, ex66, hnx66, hsp⟩ := dvE hsp
          refine lv_idiv hx hb dL_acts_480 hnx66 ?_
          refine r_top ex66 ?_
          refine lv_isub hx hb dL_acts_481 ?_
          refine lv_iconst (v := 1) hx hb dL_acts_482 (by decide) ?_
          refine lv_icmp_gt (tgt := 490) hx hb dL_acts_483 (by decide) (fun c67 => ?_) (fun c67 => ?_)
          · have hsp := itT hsp c67
            cases hsp
          have hsp := itF hsp c67
          refine lv_iconst (v := 1) hx hb dL_acts_486 (by decide) ?_
          refine lv_goto (tgt := 491) hx hb dL_acts_487 (by decide) ?_
          have hres := Option.some.inj hsp
          subst hres
          exact W.zret (v := 1) hx hb hr (zE (Or.inr rfl)) (fun t ht _ => ⟨⟨1, (), rfl, ⟨rfl, (Or.inr rfl)⟩, W_at ht hW⟩, hS.F ht⟩) hS.2.2 dL_acts_491
        have hsp := itF hsp c55
        refine lv_iload hx hb dL_acts_383 (lv_at hl 0 rfl) ?_
        refine lv_bipush (v := (-4)) hx hb dL_acts_385 (by decide) ?_
        refine lv_icmp_ne (tgt := 394) hx hb dL_acts_387 (by decide) (fun c68 => ?_) (fun c68 => ?_)
        · have hsp := itF hsp c68
          cases hsp
        have hsp := itT hsp c68
        refine lv_iconst (v := 1) hx hb dL_acts_390 (by decide) ?_
        refine lv_goto (tgt := 491) hx hb dL_acts_391 (by decide) ?_
        have hres := Option.some.inj hsp
        subst hres
        exact W.zret (v := 1) hx hb hr (zE (Or.inr rfl)) (fun t ht _ => ⟨⟨1, (), rfl, ⟨rfl, (Or.inr rfl)⟩, W_at ht hW⟩, hS.F ht⟩) hS.2.2 dL_acts_491
      have hsp := itF hsp c54
      refine lv_iload hx hb dL_acts_358 (lv_at hl 0 rfl) ?_
      refine lv_bipush (v := (-5)) hx hb dL_acts_360 (by decide) ?_
      refine lv_icmp_ne (tgt := 369) hx hb dL_acts_362 (by decide) (fun c69 => ?_) (fun c69 => ?_)
      · have hsp := itF hsp c69
        cases hsp
      have hsp := itT hsp c69
      refine lv_iconst (v := 1) hx hb dL_acts_365 (by decide) ?_
      refine lv_goto (tgt := 491) hx hb dL_acts_366 (by decide) ?_
      have hres := Option.some.inj hsp
      subst hres
      exact W.zret (v := 1) hx hb hr (zE (Or.inr rfl)) (fun t ht _ => ⟨⟨1, (), rfl, ⟨rfl, (Or.inr rfl)⟩, W_at ht hW⟩, hS.F ht⟩) hS.2.2 dL_acts_491
    have hsp := itT hsp c53
    refine lv_iload hx hb dL_acts_336 (lv_at hl 0 rfl) ?_
    refine lv_bipush (v := (-2)) hx hb dL_acts_338 (by decide) ?_
    refine lv_icmp_ne (tgt := 347) hx hb dL_acts_340 (by decide) (fun c70 => ?_) (fun c70 => ?_)
    · have hsp := itF hsp c70
      cases hsp
    have hsp := itT hsp c70
    refine lv_iconst (v := 1) hx hb dL_acts_343 (by decide) ?_
    refine lv_goto (tgt := 491) hx hb dL_acts_344 (by decide) ?_
    have hres := Option.some.inj hsp
    subst hres
    exact W.zret (v := 1) hx hb hr (zE (Or.inr rfl)) (fun t ht _ => ⟨⟨1, (), rfl, ⟨rfl, (Or.inr rfl)⟩, W_at ht hW⟩, hS.F ht⟩) hS.2.2 dL_acts_491
  have hsp := itF hsp c48
  by_cases c71 : x7 = 5
  · have hsp := itT hsp c71
    refine lv_tableIn (off := 252) (tgt := 297) hx hb dL_acts_45 (by rw [c71]; decide) (by rw [c71]; decide) (by rw [c71]; decide) (by decide) ?_
    refine lv_aload_n hx hb dL_acts_297 rfl (lv_at hl 5 rfl) ?_
    refine lv_iload_n hx hb dL_acts_298 rfl (lv_at hl 3 rfl) ?_
    refine lv_iconst (v := 4) hx hb dL_acts_299 (by decide) ?_
    obtain ⟨r72, hcr72, hsp⟩ := clE hsp
    refine call_o (As := [.int x2, .int 4]) (rest := []) (KO_pot (l := l) (D := D) (cI := cI) (cZ := cZ) (cC := cC) (cS := cS) (oa := oa) hcr72) hKU hW hS hA ⟨hx, hb, hml, hown, hts⟩ (cwV 2 hts gL_acts_X4_pot rfl rfl rfl nd_X4_pot ⟨Nat.le_of_ble_eq_true rfl, Nat.le_of_ble_eq_true rfl⟩) rfl hl.1 rfl (Nat.le_of_ble_eq_true rfl) dL_acts_300 ⟨Nat.le_of_ble_eq_true rfl, Nat.le_of_ble_eq_true rfl⟩ (fun H locs hW hS => ?_)
    refine lv_istore (lv' := [(13, .int r72), (6, .int r6), (5, .int r5), (4, .int x4), (3, .int x2), (2, .int x1), (0, .ref oa), (1, .int u1)]) hx hb dL_acts_303 hl (by decide) rfl (fun ls hl => ?_)
    refine lv_aload_n hx hb dL_acts_305 rfl (lv_at hl 6 rfl) ?_
    refine lv_iload_n hx hb dL_acts_306 rfl (lv_at hl 5 rfl) ?_
    refine lv_iconst (v := 0) hx hb dL_acts_307 (by decide) ?_
    obtain ⟨r73, hcr73, hsp⟩ := clE hsp
    refine call_o (As := [.int x1, .int 0]) (rest := []) (KO_pot (l := l) (D := D) (cI := cI) (cZ := cZ) (cC := cC) (cS := cS) (oa := oa) hcr73) hKU hW hS hA ⟨hx, hb, hml, hown, hts⟩ (cwV 2 hts gL_acts_X4_pot rfl rfl rfl nd_X4_pot ⟨Nat.le_of_ble_eq_true rfl, Nat.le_of_ble_eq_true rfl⟩) rfl hl.1 rfl (Nat.le_of_ble_eq_true rfl) dL_acts_308 ⟨Nat.le_of_ble_eq_true rfl, Nat.le_of_ble_eq_true rfl⟩ (fun H locs hW hS => ?_)
    refine lv_istore (lv' := [(14, .int r73), (13, .int r72), (6, .int r6), (5, .int r5), (4, .int x4), (3, .int x2), (2, .int x1), (0, .ref oa), (1, .int u1)]) hx hb dL_acts_311 hl (by decide) rfl (fun ls hl => ?_)
    refine lv_aload_n hx hb dL_acts_313 rfl (lv_at hl 7 rfl) ?_
    refine lv_iload_n hx hb dL_acts_314 rfl (lv_at hl 5 rfl) ?_
    refine lv_iconst (v := 0) hx hb dL_acts_315 (by decide) ?_
    obtain ⟨r74, hcr74, hsp⟩ := clE hsp
    refine call_o (As := [.int x2, .int 0]) (rest := []) (KO_pot (l := l) (D := D) (cI := cI) (cZ := cZ) (cC := cC) (cS := cS) (oa := oa) hcr74) hKU hW hS hA ⟨hx, hb, hml, hown, hts⟩ (cwV 2 hts gL_acts_X4_pot rfl rfl rfl nd_X4_pot ⟨Nat.le_of_ble_eq_true rfl, Nat.le_of_ble_eq_true rfl⟩) rfl hl.1 rfl (Nat.le_of_ble_eq_true rfl) dL_acts_316 ⟨Nat.le_of_ble_eq_true rfl, Nat.le_of_ble_eq_true rfl⟩ (fun H locs hW hS => ?_)
    refine lv_istore (lv' := [(15, .int r74), (14, .int r73), (13, .int r72), (6, .int r6), (5, .int r5), (4, .int x4), (3, .int x2), (2, .int x1), (0, .ref oa), (1, .int u1)]) hx hb dL_acts_319 hl (by decide) rfl (fun ls hl => ?_)
    refine lv_aload_n hx hb dL_acts_321 rfl (lv_at hl 8 rfl) ?_
    refine lv_iload_n hx hb dL_acts_322 rfl (lv_at hl 7 rfl) ?_
    refine lv_iload_n hx hb dL_acts_323 rfl (lv_at hl 6 rfl) ?_
    refine lv_iload hx hb dL_acts_324 (lv_at hl 5 rfl) ?_
    obtain ⟨r75, hcr75, hsp⟩ := clE hsp
    refine call_o (As := [.int x1, .int x2, .int x4]) (rest := []) (KO_pour (l := l) (D := D) (cI := cI) (cZ := cZ) (cC := cC) (cS := cS) (oa := oa) hcr75) hKU hW hS hA ⟨hx, hb, hml, hown, hts⟩ (cwV 3 hts gL_acts_X4_pour rfl rfl rfl nd_X4_pour ⟨Nat.le_of_ble_eq_true rfl, Nat.le_of_ble_eq_true rfl⟩) rfl hl.1 rfl (Nat.le_of_ble_eq_true rfl) dL_acts_326 ⟨Nat.le_of_ble_eq_true rfl, Nat.le_of_ble_eq_true rfl⟩ (fun H locs hW hS => ?_)
    have hW : WD D cI cS A oa r75.2 H := hW
    refine lv_istore (lv' := [(16, .int r75.1), (15, .int r74), (14, .int r73), (13, .int r72), (6, .int r6), (5, .int r5), (4, .int x4), (3, .int x2), (2, .int x1), (0, .ref oa), (1, .int u1)]) hx hb dL_acts_329 hl (by decide) rfl (fun ls hl => ?_)
    refine lv_iload_n hx hb dL_acts_331 rfl (lv_at hl 8 rfl) ?_
    refine lv_iload_n hx hb dL_acts_332 rfl (lv_at hl 7 rfl) ?_
    refine lv_icmp_ne (tgt := 351) hx hb dL_acts_333 (by decide) (fun c76 => ?_) (fun c76 => ?_)
    · have hsp := itF hsp c76
      refine lv_iload hx hb dL_acts_351 (lv_at hl 5 rfl) ?_
      refine lv_iload hx hb dL_acts_353 (lv_at hl 6 rfl) ?_
      refine lv_icmp_ge (tgt := 373) hx hb dL_acts_355 (by decide) (fun c77 => ?_) (fun c77 => ?_)
      · have hsp := itT hsp c77
        refine lv_iload hx hb dL_acts_373 (lv_at hl 3 rfl) ?_
        refine lv_iload hx hb dL_acts_375 (lv_at hl 6 rfl) ?_
        refine lv_iadd hx hb dL_acts_377 ?_
        refine lv_bipush (v := 81) hx hb dL_acts_378 (by decide) ?_
        refine lv_icmp_le (tgt := 398) hx hb dL_acts_380 (by decide) (fun c78 => ?_) (fun c78 => ?_)
        · have hsp := itT hsp c78
          refine lv_iload hx hb dL_acts_398 (lv_at hl 0 rfl) ?_
          refine lv_iload hx hb dL_acts_400 (lv_at hl 3 rfl) ?_
          refine lv_iload hx hb dL_acts_402 (lv_at hl 6 rfl) ?_
          refine lv_iadd hx hb dL_acts_404 ?_
          refine lv_icmp_ne (tgt := 490) hx hb dL_acts_405 (by decide) (fun c79 => ?_) (fun c79 => ?_)
          · have hsp := itF hsp c79
            cases hsp
          have hsp := itT hsp c79
          refine lv_aload_n hx hb dL_acts_408 rfl (lv_at hl 9 rfl) ?_
          refine lv_iload_n hx hb dL_acts_409 rfl (lv_at hl 8 rfl) ?_
          refine lv_iconst (v := 4) hx hb dL_acts_410 (by decide) ?_
          obtain ⟨r80, hcr80, hsp⟩ := clE hsp
          refine call_o (As := [.int x1, .int 4]) (rest := []) (KO_pot (l := l) (D := D) (cI := cI) (cZ := cZ) (cC := cC) (cS := cS) (oa := oa) hcr80) hKU hW hS hA ⟨hx, hb, hml, hown, hts⟩ (cwV 2 hts gL_acts_X4_pot rfl rfl rfl nd_X4_pot ⟨Nat.le_of_ble_eq_true rfl, Nat.le_of_ble_eq_true rfl⟩) rfl hl.1 rfl (Nat.le_of_ble_eq_true rfl) dL_acts_411 ⟨Nat.le_of_ble_eq_true rfl, Nat.le_of_ble_eq_true rfl⟩ (fun H locs hW hS => ?_)
          refine lv_iload hx hb dL_acts_414 (lv_at hl 5 rfl) ?_
          refine lv_iload hx hb dL_acts_416 (lv_at hl 6 rfl) ?_
          refine lv_isub hx hb dL_acts_418 ?_
          refine lv_icmp_ne (tgt := 490) hx hb dL_acts_419 (by decide) (fun c81 => ?_) (fun c81 => ?_)
          · have hsp := itF hsp c81
            cases hsp
          have hsp := itT hsp c81
          refine lv_aload_n hx hb dL_acts_422 rfl (lv_at hl 9 rfl) ?_
          refine lv_iload_n hx hb dL_acts_423 rfl (lv_at hl 8 rfl) ?_
          refine lv_iconst (v := 0) hx hb dL_acts_424 (by decide) ?_
          obtain ⟨r82, hcr82, hsp⟩ := clE hsp
          refine call_o (As := [.int x1, .int 0]) (rest := []) (KO_pot (l := l) (D := D) (cI := cI) (cZ := cZ) (cC := cC) (cS := cS) (oa := oa) hcr82) hKU hW hS hA ⟨hx, hb, hml, hown, hts⟩ (cwV 2 hts gL_acts_X4_pot rfl rfl rfl nd_X4_pot ⟨Nat.le_of_ble_eq_true rfl, Nat.le_of_ble_eq_true rfl⟩) rfl hl.1 rfl (Nat.le_of_ble_eq_true rfl) dL_acts_425 ⟨Nat.le_of_ble_eq_true rfl, Nat.le_of_ble_eq_true rfl⟩ (fun H locs hW hS => ?_)
          refine lv_aload_n hx hb dL_acts_428 rfl (lv_at hl 9 rfl) ?_
          refine lv_iload_n hx hb dL_acts_429 rfl (lv_at hl 7 rfl) ?_
          refine lv_iconst (v := 0) hx hb dL_acts_430 (by decide) ?_
          obtain ⟨r83, hcr83, hsp⟩ := clE hsp
          refine call_o (As := [.int x2, .int 0]) (rest := [.int r82]) (KO_pot (l := l) (D := D) (cI := cI) (cZ := cZ) (cC := cC) (cS := cS) (oa := oa) hcr83) hKU hW hS hA ⟨hx, hb, hml, hown, hts⟩ (cwV 2 hts gL_acts_X4_pot rfl rfl rfl nd_X4_pot ⟨Nat.le_of_ble_eq_true rfl, Nat.le_of_ble_eq_true rfl⟩) rfl hl.1 rfl (Nat.le_of_ble_eq_true rfl) dL_acts_431 ⟨Nat.le_of_ble_eq_true rfl, Nat.le_of_ble_eq_true rfl⟩ (fun H locs hW hS => ?_)
          refine lv_iadd hx hb dL_acts_434 ?_
          refine lv_iload hx hb dL_acts_435 (lv_at hl 2 rfl) ?_
          refine lv_iload hx hb dL_acts_437 (lv_at hl 1 rfl) ?_
          refine lv_iadd hx hb dL_acts_439 ?_
          refine lv_icmp_ne (tgt := 490) hx hb dL_acts_440 (by decide) (fun c84 => ?_) (fun c84 => ?_)
          · have hsp := itF hsp c84
            cases hsp
          have hsp := itT hsp c84
          refine lv_aload_n hx hb dL_acts_443 rfl (lv_at hl 9 rfl) ?_
          refine lv_iload_n hx hb dL_acts_444 rfl (lv_at hl 7 rfl) ?_
          refine lv_iconst (v := 0) hx hb dL_acts_445 (by decide) ?_
          obtain ⟨r85, hcr85, hsp⟩ := clE hsp
          refine call_o (As := [.int x2, .int 0]) (rest := []) (KO_pot (l := l) (D := D) (cI := cI) (cZ := cZ) (cC := cC) (cS := cS) (oa := oa) hcr85) hKU hW hS hA ⟨hx, hb, hml, hown, hts⟩ (cwV 2 hts gL_acts_X4_pot rfl rfl rfl nd_X4_pot ⟨Nat.le_of_ble_eq_true rfl, Nat.le_of_ble_eq_true rfl⟩) rfl hl.1 rfl (Nat.le_of_ble_eq_true rfl) dL_acts_446 ⟨Nat.le_of_ble_eq_true rfl, Nat.le_of_ble_eq_true rfl⟩ (fun H locs hW hS => ?_)
          refine lv_iload hx hb dL_acts_449 (lv_at hl 1 rfl) ?_
          refine lv_isub hx hb dL_acts_451 ?_
          refine lv_iload hx hb dL_acts_452 (lv_at hl 2 rfl) ?_
          refine lv_iload hx hb dL_acts_454 (lv_at hl 6 rfl) ?_
          refine lv_imul hx hb dL_acts_456 ?_
          refine lv_iload hx hb dL_acts_457 (lv_at hl 5 rfl) ?_
          obtain ⟨x86, ex86, hnx86, hsp⟩ := dvE hsp
          refine lv_idiv hx hb dL_acts_459 hnx86 ?_
          refine r_top ex86 ?_
          refine lv_isub hx hb dL_acts_460 ?_
          refine lv_if_lt (tgt := 490) hx hb dL_acts_461 (by decide) (fun c87 => ?_) (fun c87 => ?_)
          · have hsp := itT hsp c87
            cases hsp
          have hsp := itF hsp c87
          refine lv_aload_n hx hb dL_acts_464 rfl (lv_at hl 9 rfl) ?_
          refine lv_iload_n hx hb dL_acts_465 rfl (lv_at hl 7 rfl) ?_
          refine lv_iconst (v := 0) hx hb dL_acts_466 (by decide) ?_
          obtain ⟨r88, hcr88, hsp⟩ := clE hsp
          refine call_o (As := [.int x2, .int 0]) (rest := []) (KO_pot (l := l) (D := D) (cI := cI) (cZ := cZ) (cC := cC) (cS := cS) (oa := oa) hcr88) hKU hW hS hA ⟨hx, hb, hml, hown, hts⟩ (cwV 2 hts gL_acts_X4_pot rfl rfl rfl nd_X4_pot ⟨Nat.le_of_ble_eq_true rfl, Nat.le_of_ble_eq_true rfl⟩) rfl hl.1 rfl (Nat.le_of_ble_eq_true rfl) dL_acts_467 ⟨Nat.le_of_ble_eq_true rfl, Nat.le_of_ble_eq_true rfl⟩ (fun H locs hW hS => ?_)
          refine lv_iload hx hb dL_acts_470 (lv_at hl 1 rfl) ?_
          refine lv_isub hx hb dL_acts_472 ?_
          refine lv_iload hx hb dL_acts_473 (lv_at hl 2 rfl) ?_
          refine lv_iload hx hb dL_acts_475 (lv_at hl 6 rfl) ?_
          refine lv_imul hx hb dL_acts_477 ?_
          refine lv_iload hx hb dL_acts_478 (lv_at hl 5 rfl) ?_
          obtain ⟨x89, ex89, hnx89, hsp⟩ := dvE hsp
          refine lv_idiv hx hb dL_acts_480 hnx89 ?_
          refine r_top ex89 ?_
          refine lv_isub hx hb dL_acts_481 ?_
          refine lv_iconst (v := 1) hx hb dL_acts_482 (by decide) ?_
          refine lv_icmp_gt (tgt := 490) hx hb dL_acts_483 (by decide) (fun c90 => ?_) (fun c90 => ?_)
          · have hsp := itT hsp c90
            cases hsp
          have hsp := itF hsp c90
          refine lv_iconst (v := 1) hx hb dL_acts_486 (by decide) ?_
          refine lv_goto (tgt := 491) hx hb dL_acts_487 (by decide) ?_
          have hres := Option.some.inj hsp
          subst hres
          exact W.zret (v := 1) hx hb hr (zE (Or.inr rfl)) (fun t ht _ => ⟨⟨1, (), rfl, ⟨rfl, (Or.inr rfl)⟩, W_at ht hW⟩, hS.F ht⟩) hS.2.2 dL_acts_491
        have hsp := itF hsp c78
        refine lv_iload hx hb dL_acts_383 (lv_at hl 0 rfl) ?_
        refine lv_bipush (v := (-4)) hx hb dL_acts_385 (by decide) ?_
        refine lv_icmp_ne (tgt := 394) hx hb dL_acts_387 (by decide) (fun c91 => ?_) (fun c91 => ?_)
        · have hsp := itF hsp c91
          cases hsp
        have hsp := itT hsp c91
        refine lv_iconst (v := 1) hx hb dL_acts_390 (by decide) ?_
        refine lv_goto (tgt := 491) hx hb dL_acts_391 (by decide) ?_
        have hres := Option.some.inj hsp
        subst hres
        exact W.zret (v := 1) hx hb hr (zE (Or.inr rfl)) (fun t ht _ => ⟨⟨1, (), rfl, ⟨rfl, (Or.inr rfl)⟩, W_at ht hW⟩, hS.F ht⟩) hS.2.2 dL_acts_491
      have hsp := itF hsp c77
      refine lv_iload hx hb dL_acts_358 (lv_at hl 0 rfl) ?_
      refine lv_bipush (v := (-5)) hx hb dL_acts_360 (by decide) ?_
      refine lv_icmp_ne (tgt := 369) hx hb dL_acts_362 (by decide) (fun c92 => ?_) (fun c92 => ?_)
      · have hsp := itF hsp c92
        cases hsp
      have hsp := itT hsp c92
      refine lv_iconst (v := 1) hx hb dL_acts_365 (by decide) ?_
      refine lv_goto (tgt := 491) hx hb dL_acts_366 (by decide) ?_
      have hres := Option.some.inj hsp
      subst hres
      exact W.zret (v := 1) hx hb hr (zE (Or.inr rfl)) (fun t ht _ => ⟨⟨1, (), rfl, ⟨rfl, (Or.inr rfl)⟩, W_at ht hW⟩, hS.F ht⟩) hS.2.2 dL_acts_491
    have hsp := itT hsp c76
    refine lv_iload hx hb dL_acts_336 (lv_at hl 0 rfl) ?_
    refine lv_bipush (v := (-2)) hx hb dL_acts_338 (by decide) ?_
    refine lv_icmp_ne (tgt := 347) hx hb dL_acts_340 (by decide) (fun c93 => ?_) (fun c93 => ?_)
    · have hsp := itF hsp c93
      cases hsp
    have hsp := itT hsp c93
    refine lv_iconst (v := 1) hx hb dL_acts_343 (by decide) ?_
    refine lv_goto (tgt := 491) hx hb dL_acts_344 (by decide) ?_
    have hres := Option.some.inj hsp
    subst hres
    exact W.zret (v := 1) hx hb hr (zE (Or.inr rfl)) (fun t ht _ => ⟨⟨1, (), rfl, ⟨rfl, (Or.inr rfl)⟩, W_at ht hW⟩, hS.F ht⟩) hS.2.2 dL_acts_491
  have hsp := itF hsp c71
  by_cases c94 : x7 = 6
  · have hsp := itT hsp c94
    refine lv_tableIn (off := 447) (tgt := 492) hx hb dL_acts_45 (by rw [c94]; decide) (by rw [c94]; decide) (by rw [c94]; decide) (by decide) ?_
    refine lv_iconst (v := 1) hx hb dL_acts_492 (by decide) ?_
    refine lv_iload_n hx hb dL_acts_493 rfl (lv_at hl 6 rfl) ?_
    refine lv_bipush (v := 10) hx hb dL_acts_494 (by decide) ?_
    refine lv_ishr hx hb dL_acts_496 ?_
    refine lv_bipush (v := 9) hx hb dL_acts_497 (by decide) ?_
    obtain ⟨x95, ex95, hnx95, hsp⟩ := rmdE hsp
    refine lv_irem hx hb dL_acts_499 hnx95 ?_
    refine r_top ex95 ?_
    refine lv_iadd hx hb dL_acts_500 ?_
    obtain ⟨x96, ex96, hsp⟩ := nmE hsp
    refine r_top ex96 ?_
    refine lv_istore (lv' := [(17, .int x96), (6, .int r6), (5, .int r5), (4, .int x4), (3, .int x2), (2, .int x1), (0, .ref oa), (1, .int u1)]) hx hb dL_acts_501 hl (by decide) rfl (fun ls hl => ?_)
    refine lv_aload_n hx hb dL_acts_503 rfl (lv_at hl 6 rfl) ?_
    refine lv_iload_n hx hb dL_acts_504 rfl (lv_at hl 5 rfl) ?_
    refine lv_iload hx hb dL_acts_505 (lv_at hl 0 rfl) ?_
    obtain ⟨r97, hcr97, hsp⟩ := clE hsp
    refine call_o (As := [.int x1, .int x96]) (rest := []) (KO_dip (l := l) (D := D) (cI := cI) (cZ := cZ) (cC := cC) (cS := cS) (oa := oa) hcr97) hKU hW hS hA ⟨hx, hb, hml, hown, hts⟩ (cwV 2 hts gL_acts_X4_dip rfl rfl rfl nd_X4_dip ⟨Nat.le_of_ble_eq_true rfl, Nat.le_of_ble_eq_true rfl⟩) rfl hl.1 rfl (Nat.le_of_ble_eq_true rfl) dL_acts_507 ⟨Nat.le_of_ble_eq_true rfl, Nat.le_of_ble_eq_true rfl⟩ (fun H locs hW hS => ?_)
    have hW : WD D cI cS A oa r97.2 H := hW
    refine lv_istore (lv' := [(18, .int r97.1), (17, .int x96), (6, .int r6), (5, .int r5), (4, .int x4), (3, .int x2), (2, .int x1), (0, .ref oa), (1, .int u1)]) hx hb dL_acts_510 hl (by decide) rfl (fun ls hl => ?_)
    refine lv_iload hx hb dL_acts_512 (lv_at hl 3 rfl) ?_
    refine lv_iload hx hb dL_acts_514 (lv_at hl 1 rfl) ?_
    refine lv_icmp_ge (tgt := 534) hx hb dL_acts_516 (by decide) (fun c98 => ?_) (fun c98 => ?_)
    · have hsp := itT hsp c98
      refine lv_iload hx hb dL_acts_534 (lv_at hl 2 rfl) ?_
      refine lv_iload hx hb dL_acts_536 (lv_at hl 1 rfl) ?_
      refine lv_iadd hx hb dL_acts_538 ?_
      refine lv_bipush (v := 9) hx hb dL_acts_539 (by decide) ?_
      refine lv_icmp_le (tgt := 559) hx hb dL_acts_541 (by decide) (fun c99 => ?_) (fun c99 => ?_)
      · have hsp := itT hsp c99
        refine lv_iload hx hb dL_acts_559 (lv_at hl 0 rfl) ?_
        refine lv_iload hx hb dL_acts_561 (lv_at hl 2 rfl) ?_
        refine lv_iload hx hb dL_acts_563 (lv_at hl 1 rfl) ?_
        refine lv_iadd hx hb dL_acts_565 ?_
        refine lv_icmp_ne (tgt := 587) hx hb dL_acts_566 (by decide) (fun c100 => ?_) (fun c100 => ?_)
        · have hsp := itF hsp c100
          cases hsp
        have hsp := itT hsp c100
        refine lv_aload_n hx hb dL_acts_569 rfl (lv_at hl 7 rfl) ?_
        refine lv_iload_n hx hb dL_acts_570 rfl (lv_at hl 6 rfl) ?_
        refine lv_iconst (v := 4) hx hb dL_acts_571 (by decide) ?_
        obtain ⟨r101, hcr101, hsp⟩ := clE hsp
        refine call_o (As := [.int x1, .int 4]) (rest := []) (KO_pot (l := l) (D := D) (cI := cI) (cZ := cZ) (cC := cC) (cS := cS) (oa := oa) hcr101) hKU hW hS hA ⟨hx, hb, hml, hown, hts⟩ (cwV 2 hts gL_acts_X4_pot rfl rfl rfl nd_X4_pot ⟨Nat.le_of_ble_eq_true rfl, Nat.le_of_ble_eq_true rfl⟩) rfl hl.1 rfl (Nat.le_of_ble_eq_true rfl) dL_acts_572 ⟨Nat.le_of_ble_eq_true rfl, Nat.le_of_ble_eq_true rfl⟩ (fun H locs hW hS => ?_)
        refine lv_iload hx hb dL_acts_575 (lv_at hl 3 rfl) ?_
        refine lv_iload hx hb dL_acts_577 (lv_at hl 1 rfl) ?_
        refine lv_isub hx hb dL_acts_579 ?_
        refine lv_icmp_ne (tgt := 587) hx hb dL_acts_580 (by decide) (fun c102 => ?_) (fun c102 => ?_)
        · have hsp := itF hsp c102
          cases hsp
        have hsp := itT hsp c102
        refine lv_iconst (v := 1) hx hb dL_acts_583 (by decide) ?_
        refine lv_goto (tgt := 588) hx hb dL_acts_584 (by decide) ?_
        have hres := Option.some.inj hsp
        subst hres
        exact W.zret (v := 1) hx hb hr (zE (Or.inr rfl)) (fun t ht _ => ⟨⟨1, (), rfl, ⟨rfl, (Or.inr rfl)⟩, W_at ht hW⟩, hS.F ht⟩) hS.2.2 dL_acts_588
      have hsp := itF hsp c99
      refine lv_iload hx hb dL_acts_544 (lv_at hl 0 rfl) ?_
      refine lv_bipush (v := (-4)) hx hb dL_acts_546 (by decide) ?_
      refine lv_icmp_ne (tgt := 555) hx hb dL_acts_548 (by decide) (fun c103 => ?_) (fun c103 => ?_)
      · have hsp := itF hsp c103
        cases hsp
      have hsp := itT hsp c103
      refine lv_iconst (v := 1) hx hb dL_acts_551 (by decide) ?_
      refine lv_goto (tgt := 588) hx hb dL_acts_552 (by decide) ?_
      have hres := Option.some.inj hsp
      subst hres
      exact W.zret (v := 1) hx hb hr (zE (Or.inr rfl)) (fun t ht _ => ⟨⟨1, (), rfl, ⟨rfl, (Or.inr rfl)⟩, W_at ht hW⟩, hS.F ht⟩) hS.2.2 dL_acts_588
    have hsp := itF hsp c98
    refine lv_iload hx hb dL_acts_519 (lv_at hl 0 rfl) ?_
    refine lv_bipush (v := (-5)) hx hb dL_acts_521 (by decide) ?_
    refine lv_icmp_ne (tgt := 530) hx hb dL_acts_523 (by decide) (fun c104 => ?_) (fun c104 => ?_)
    · have hsp := itF hsp c104
      cases hsp
    have hsp := itT hsp c104
    refine lv_iconst (v := 1) hx hb dL_acts_526 (by decide) ?_
    refine lv_goto (tgt := 588) hx hb dL_acts_527 (by decide) ?_
    have hres := Option.some.inj hsp
    subst hres
    exact W.zret (v := 1) hx hb hr (zE (Or.inr rfl)) (fun t ht _ => ⟨⟨1, (), rfl, ⟨rfl, (Or.inr rfl)⟩, W_at ht hW⟩, hS.F ht⟩) hS.2.2 dL_acts_588
  have hsp := itF hsp c94
  by_cases c105 : x7 = 7
  · have hsp := itT hsp c105
    refine lv_tableIn (off := 447) (tgt := 492) hx hb dL_acts_45 (by rw [c105]; decide) (by rw [c105]; decide) (by rw [c105]; decide) (by decide) ?_
    refine lv_iconst (v := 1) hx hb dL_acts_492 (by decide) ?_
    refine lv_iload_n hx hb dL_acts_493 rfl (lv_at hl 6 rfl) ?_
    refine lv_bipush (v := 10) hx hb dL_acts_494 (by decide) ?_
    refine lv_ishr hx hb dL_acts_496 ?_
    refine lv_bipush (v := 9) hx hb dL_acts_497 (by decide) ?_
    obtain ⟨x106, ex106, hnx106, hsp⟩ := rmdE hsp
    refine lv_irem hx hb dL_acts_499 hnx106 ?_
    refine r_top ex106 ?_
    refine lv_iadd hx hb dL_acts_500 ?_
    obtain ⟨x107, ex107, hsp⟩ := nmE hsp
    refine r_top ex107 ?_
    refine lv_istore (lv' := [(17, .int x107), (6, .int r6), (5, .int r5), (4, .int x4), (3, .int x2), (2, .int x1), (0, .ref oa), (1, .int u1)]) hx hb dL_acts_501 hl (by decide) rfl (fun ls hl => ?_)
    refine lv_aload_n hx hb dL_acts_503 rfl (lv_at hl 6 rfl) ?_
    refine lv_iload_n hx hb dL_acts_504 rfl (lv_at hl 5 rfl) ?_
    refine lv_iload hx hb dL_acts_505 (lv_at hl 0 rfl) ?_
    obtain ⟨r108, hcr108, hsp⟩ := clE hsp
    refine call_o (As := [.int x1, .int x107]) (rest := []) (KO_dip (l := l) (D := D) (cI := cI) (cZ := cZ) (cC := cC) (cS := cS) (oa := oa) hcr108) hKU hW hS hA ⟨hx, hb, hml, hown, hts⟩ (cwV 2 hts gL_acts_X4_dip rfl rfl rfl nd_X4_dip ⟨Nat.le_of_ble_eq_true rfl, Nat.le_of_ble_eq_true rfl⟩) rfl hl.1 rfl (Nat.le_of_ble_eq_true rfl) dL_acts_507 ⟨Nat.le_of_ble_eq_true rfl, Nat.le_of_ble_eq_true rfl⟩ (fun H locs hW hS => ?_)
    have hW : WD D cI cS A oa r108.2 H := hW
    refine lv_istore (lv' := [(18, .int r108.1), (17, .int x107), (6, .int r6), (5, .int r5), (4, .int x4), (3, .int x2), (2, .int x1), (0, .ref oa), (1, .int u1)]) hx hb dL_acts_510 hl (by decide) rfl (fun ls hl => ?_)
    refine lv_iload hx hb dL_acts_512 (lv_at hl 3 rfl) ?_
    refine lv_iload hx hb dL_acts_514 (lv_at hl 1 rfl) ?_
    refine lv_icmp_ge (tgt := 534) hx hb dL_acts_516 (by decide) (fun c109 => ?_) (fun c109 => ?_)
    · have hsp := itT hsp c109
      refine lv_iload hx hb dL_acts_534 (lv_at hl 2 rfl) ?_
      refine lv_iload hx hb dL_acts_536 (lv_at hl 1 rfl) ?_
      refine lv_iadd hx hb dL_acts_538 ?_
      refine lv_bipush (v := 9) hx hb dL_acts_539 (by decide) ?_
      refine lv_icmp_le (tgt := 559) hx hb dL_acts_541 (by decide) (fun c110 => ?_) (fun c110 => ?_)
      · have hsp := itT hsp c110
        refine lv_iload hx hb dL_acts_559 (lv_at hl 0 rfl) ?_
        refine lv_iload hx hb dL_acts_561 (lv_at hl 2 rfl) ?_
        refine lv_iload hx hb dL_acts_563 (lv_at hl 1 rfl) ?_
        refine lv_iadd hx hb dL_acts_565 ?_
        refine lv_icmp_ne (tgt := 587) hx hb dL_acts_566 (by decide) (fun c111 => ?_) (fun c111 => ?_)
        · have hsp := itF hsp c111
          cases hsp
        have hsp := itT hsp c111
        refine lv_aload_n hx hb dL_acts_569 rfl (lv_at hl 7 rfl) ?_
        refine lv_iload_n hx hb dL_acts_570 rfl (lv_at hl 6 rfl) ?_
        refine lv_iconst (v := 4) hx hb dL_acts_571 (by decide) ?_
        obtain ⟨r112, hcr112, hsp⟩ := clE hsp
        refine call_o (As := [.int x1, .int 4]) (rest := []) (KO_pot (l := l) (D := D) (cI := cI) (cZ := cZ) (cC := cC) (cS := cS) (oa := oa) hcr112) hKU hW hS hA ⟨hx, hb, hml, hown, hts⟩ (cwV 2 hts gL_acts_X4_pot rfl rfl rfl nd_X4_pot ⟨Nat.le_of_ble_eq_true rfl, Nat.le_of_ble_eq_true rfl⟩) rfl hl.1 rfl (Nat.le_of_ble_eq_true rfl) dL_acts_572 ⟨Nat.le_of_ble_eq_true rfl, Nat.le_of_ble_eq_true rfl⟩ (fun H locs hW hS => ?_)
        refine lv_iload hx hb dL_acts_575 (lv_at hl 3 rfl) ?_
        refine lv_iload hx hb dL_acts_577 (lv_at hl 1 rfl) ?_
        refine lv_isub hx hb dL_acts_579 ?_
        refine lv_icmp_ne (tgt := 587) hx hb dL_acts_580 (by decide) (fun c113 => ?_) (fun c113 => ?_)
        · have hsp := itF hsp c113
          cases hsp
        have hsp := itT hsp c113
        refine lv_iconst (v := 1) hx hb dL_acts_583 (by decide) ?_
        refine lv_goto (tgt := 588) hx hb dL_acts_584 (by decide) ?_
        have hres := Option.some.inj hsp
        subst hres
        exact W.zret (v := 1) hx hb hr (zE (Or.inr rfl)) (fun t ht _ => ⟨⟨1, (), rfl, ⟨rfl, (Or.inr rfl)⟩, W_at ht hW⟩, hS.F ht⟩) hS.2.2 dL_acts_588
      have hsp := itF hsp c110
      refine lv_iload hx hb dL_acts_544 (lv_at hl 0 rfl) ?_
      refine lv_bipush (v := (-4)) hx hb dL_acts_546 (by decide) ?_
      refine lv_icmp_ne (tgt := 555) hx hb dL_acts_548 (by decide) (fun c114 => ?_) (fun c114 => ?_)
      · have hsp := itF hsp c114
        cases hsp
      have hsp := itT hsp c114
      refine lv_iconst (v := 1) hx hb dL_acts_551 (by decide) ?_
      refine lv_goto (tgt := 588) hx hb dL_acts_552 (by decide) ?_
      have hres := Option.some.inj hsp
      subst hres
      exact W.zret (v := 1) hx hb hr (zE (Or.inr rfl)) (fun t ht _ => ⟨⟨1, (), rfl, ⟨rfl, (Or.inr rfl)⟩, W_at ht hW⟩, hS.F ht⟩) hS.2.2 dL_acts_588
    have hsp := itF hsp c109
    refine lv_iload hx hb dL_acts_519 (lv_at hl 0 rfl) ?_
    refine lv_bipush (v := (-5)) hx hb dL_acts_521 (by decide) ?_
    refine lv_icmp_ne (tgt := 530) hx hb dL_acts_523 (by decide) (fun c115 => ?_) (fun c115 => ?_)
    · have hsp := itF hsp c115
      cases hsp
    have hsp := itT hsp c115
    refine lv_iconst (v := 1) hx hb dL_acts_526 (by decide) ?_
    refine lv_goto (tgt := 588) hx hb dL_acts_527 (by decide) ?_
    have hres := Option.some.inj hsp
    subst hres
    exact W.zret (v := 1) hx hb hr (zE (Or.inr rfl)) (fun t ht _ => ⟨⟨1, (), rfl, ⟨rfl, (Or.inr rfl)⟩, W_at ht hW⟩, hS.F ht⟩) hS.2.2 dL_acts_588
  have hsp := itF hsp c105
  by_cases c116 : x7 = 8
  · have hsp := itT hsp c116
    refine lv_tableIn (off := 544) (tgt := 589) hx hb dL_acts_45 (by rw [c116]; decide) (by rw [c116]; decide) (by rw [c116]; decide) (by decide) ?_
    refine lv_iload_n hx hb dL_acts_589 rfl (lv_at hl 6 rfl) ?_
    refine lv_iconst (v := 4) hx hb dL_acts_590 (by decide) ?_
    refine lv_ishr hx hb dL_acts_591 ?_
    refine lv_bipush (v := 6) hx hb dL_acts_592 (by decide) ?_
    obtain ⟨x117, ex117, hnx117, hsp⟩ := rmdE hsp
    refine lv_irem hx hb dL_acts_594 hnx117 ?_
    refine r_top ex117 ?_
    refine lv_istore (lv' := [(19, .int x117), (6, .int r6), (5, .int r5), (4, .int x4), (3, .int x2), (2, .int x1), (0, .ref oa), (1, .int u1)]) hx hb dL_acts_595 hl (by decide) rfl (fun ls hl => ?_)
    refine lv_aload_n hx hb dL_acts_597 rfl (lv_at hl 6 rfl) ?_
    refine lv_iconst (v := 5) hx hb dL_acts_598 (by decide) ?_
    obtain ⟨r118, hcr118, hsp⟩ := clE hsp
    refine call_o (As := [.int 5]) (rest := []) (KO_brush (l := l) (D := D) (cI := cI) (cZ := cZ) (cC := cC) (cS := cS) (oa := oa) hcr118) hKU hW hS hA ⟨hx, hb, hml, hown, hts⟩ (cwV 1 hts gL_acts_X4_brush rfl rfl rfl nd_X4_brush ⟨Nat.le_of_ble_eq_true rfl, Nat.le_of_ble_eq_true rfl⟩) rfl hl.1 rfl (Nat.le_of_ble_eq_true rfl) dL_acts_599 ⟨Nat.le_of_ble_eq_true rfl, Nat.le_of_ble_eq_true rfl⟩ (fun H locs hW hS => ?_)
    refine lv_istore (lv' := [(20, .int r118), (19, .int x117), (6, .int r6), (5, .int r5), (4, .int x4), (3, .int x2), (2, .int x1), (0, .ref oa), (1, .int u1)]) hx hb dL_acts_602 hl (by decide) rfl (fun ls hl => ?_)
    refine lv_aload_n hx hb dL_acts_604 rfl (lv_at hl 7 rfl) ?_
    refine lv_iload hx hb dL_acts_605 (lv_at hl 1 rfl) ?_
    refine lv_bipush (v := 8) hx hb dL_acts_607 (by decide) ?_
    obtain ⟨r119, hcr119, hsp⟩ := clE hsp
    refine call_o (As := [.int x117, .int 8]) (rest := []) (KO_panel (l := l) (D := D) (cI := cI) (cZ := cZ) (cC := cC) (cS := cS) (oa := oa) hcr119) hKU hW hS hA ⟨hx, hb, hml, hown, hts⟩ (cwV 2 hts gL_acts_X4_panel rfl rfl rfl nd_X4_panel ⟨Nat.le_of_ble_eq_true rfl, Nat.le_of_ble_eq_true rfl⟩) rfl hl.1 rfl (Nat.le_of_ble_eq_true rfl) dL_acts_609 ⟨Nat.le_of_ble_eq_true rfl, Nat.le_of_ble_eq_true rfl⟩ (fun H locs hW hS => ?_)
    refine lv_istore (lv' := [(21, .int r119), (20, .int r118), (19, .int x117), (6, .int r6), (5, .int r5), (4, .int x4), (3, .int x2), (2, .int x1), (0, .ref oa), (1, .int u1)]) hx hb dL_acts_612 hl (by decide) rfl (fun ls hl => ?_)
    refine lv_aload_n hx hb dL_acts_614 rfl (lv_at hl 8 rfl) ?_
    refine lv_iload hx hb dL_acts_615 (lv_at hl 2 rfl) ?_
    obtain ⟨r120, hcr120, hsp⟩ := clE hsp
    refine call_o (As := [.int x117]) (rest := []) (KO_paint (l := l) (D := D) (cI := cI) (cZ := cZ) (cC := cC) (cS := cS) (oa := oa) hcr120) hKU hW hS hA ⟨hx, hb, hml, hown, hts⟩ (cwV 1 hts gL_acts_X4_paint rfl rfl rfl nd_X4_paint ⟨Nat.le_of_ble_eq_true rfl, Nat.le_of_ble_eq_true rfl⟩) rfl hl.1 rfl (Nat.le_of_ble_eq_true rfl) dL_acts_617 ⟨Nat.le_of_ble_eq_true rfl, Nat.le_of_ble_eq_true rfl⟩ (fun H locs hW hS => ?_)
    have hW : WD D cI cS A oa r120.2 H := hW
    refine lv_istore (lv' := [(22, .int r120.1), (21, .int r119), (20, .int r118), (19, .int x117), (6, .int r6), (5, .int r5), (4, .int x4), (3, .int x2), (2, .int x1), (0, .ref oa), (1, .int u1)]) hx hb dL_acts_620 hl (by decide) rfl (fun ls hl => ?_)
    refine lv_iload hx hb dL_acts_622 (lv_at hl 4 rfl) ?_
    refine lv_aload_n hx hb dL_acts_624 rfl (lv_at hl 9 rfl) ?_
    refine lv_iconst (v := 0) hx hb dL_acts_625 (by decide) ?_
    obtain ⟨r121, hcr121, hsp⟩ := clE hsp
    refine call_o (As := [.int 0]) (rest := [.int r6]) (KO_count (l := l) (D := D) (cI := cI) (cZ := cZ) (cC := cC) (cS := cS) (oa := oa) hcr121) hKU hW hS hA ⟨hx, hb, hml, hown, hts⟩ (cwV 1 hts gL_acts_X4_count rfl rfl rfl nd_X4_count ⟨Nat.le_of_ble_eq_true rfl, Nat.le_of_ble_eq_true rfl⟩) rfl hl.1 rfl (Nat.le_of_ble_eq_true rfl) dL_acts_626 ⟨Nat.le_of_ble_eq_true rfl, Nat.le_of_ble_eq_true rfl⟩ (fun H locs hW hS => ?_)
    refine lv_icmp_ge (tgt := 647) hx hb dL_acts_629 (by decide) (fun c122 => ?_) (fun c122 => ?_)
    · have hsp := itT hsp c122
      refine lv_iload hx hb dL_acts_647 (lv_at hl 0 rfl) ?_
      refine lv_aload_n hx hb dL_acts_649 rfl (lv_at hl 9 rfl) ?_
      refine lv_iload hx hb dL_acts_650 (lv_at hl 3 rfl) ?_
      refine lv_bipush (v := 6) hx hb dL_acts_652 (by decide) ?_
      obtain ⟨r123, hcr123, hsp⟩ := clE hsp
      refine call_o (As := [.int x117, .int 6]) (rest := [.int r120.1]) (KO_panel (l := l) (D := D) (cI := cI) (cZ := cZ) (cC := cC) (cS := cS) (oa := oa) hcr123) hKU hW hS hA ⟨hx, hb, hml, hown, hts⟩ (cwV 2 hts gL_acts_X4_panel rfl rfl rfl nd_X4_panel ⟨Nat.le_of_ble_eq_true rfl, Nat.le_of_ble_eq_true rfl⟩) rfl hl.1 rfl (Nat.le_of_ble_eq_true rfl) dL_acts_654 ⟨Nat.le_of_ble_eq_true rfl, Nat.le_of_ble_eq_true rfl⟩ (fun H locs hW hS => ?_)
      refine lv_icmp_ne (tgt := 707) hx hb dL_acts_657 (by decide) (fun c124 => ?_) (fun c124 => ?_)
      · have hsp := itF hsp c124
        cases hsp
      have hsp := itT hsp c124
      refine lv_aload_n hx hb dL_acts_660 rfl (lv_at hl 9 rfl) ?_
      refine lv_iload hx hb dL_acts_661 (lv_at hl 3 rfl) ?_
      refine lv_iconst (v := 3) hx hb dL_acts_663 (by decide) ?_
      obtain ⟨r125, hcr125, hsp⟩ := clE hsp
      refine call_o (As := [.int x117, .int 3]) (rest := []) (KO_panel (l := l) (D := D) (cI := cI) (cZ := cZ) (cC := cC) (cS := cS) (oa := oa) hcr125) hKU hW hS hA ⟨hx, hb, hml, hown, hts⟩ (cwV 2 hts gL_acts_X4_panel rfl rfl rfl nd_X4_panel ⟨Nat.le_of_ble_eq_true rfl, Nat.le_of_ble_eq_true rfl⟩) rfl hl.1 rfl (Nat.le_of_ble_eq_true rfl) dL_acts_664 ⟨Nat.le_of_ble_eq_true rfl, Nat.le_of_ble_eq_true rfl⟩ (fun H locs hW hS => ?_)
      refine lv_iload hx hb dL_acts_667 (lv_at hl 2 rfl) ?_
      refine lv_icmp_ne (tgt := 707) hx hb dL_acts_669 (by decide) (fun c126 => ?_) (fun c126 => ?_)
      · have hsp := itF hsp c126
        cases hsp
      have hsp := itT hsp c126
      refine lv_aload_n hx hb dL_acts_672 rfl (lv_at hl 9 rfl) ?_
      refine lv_iconst (v := 4) hx hb dL_acts_673 (by decide) ?_
      obtain ⟨r127, hcr127, hsp⟩ := clE hsp
      refine call_o (As := [.int 4]) (rest := []) (KO_brush (l := l) (D := D) (cI := cI) (cZ := cZ) (cC := cC) (cS := cS) (oa := oa) hcr127) hKU hW hS hA ⟨hx, hb, hml, hown, hts⟩ (cwV 1 hts gL_acts_X4_brush rfl rfl rfl nd_X4_brush ⟨Nat.le_of_ble_eq_true rfl, Nat.le_of_ble_eq_true rfl⟩) rfl hl.1 rfl (Nat.le_of_ble_eq_true rfl) dL_acts_674 ⟨Nat.le_of_ble_eq_true rfl, Nat.le_of_ble_eq_true rfl⟩ (fun H locs hW hS => ?_)
      refine lv_iload hx hb dL_acts_677 (lv_at hl 4 rfl) ?_
      refine lv_aload_n hx hb dL_acts_679 rfl (lv_at hl 9 rfl) ?_
      refine lv_iconst (v := 0) hx hb dL_acts_680 (by decide) ?_
      obtain ⟨r128, hcr128, hsp⟩ := clE hsp
      refine call_o (As := [.int 0]) (rest := [.int r6, .int r127]) (KO_count (l := l) (D := D) (cI := cI) (cZ := cZ) (cC := cC) (cS := cS) (oa := oa) hcr128) hKU hW hS hA ⟨hx, hb, hml, hown, hts⟩ (cwV 1 hts gL_acts_X4_count rfl rfl rfl nd_X4_count ⟨Nat.le_of_ble_eq_true rfl, Nat.le_of_ble_eq_true rfl⟩) rfl hl.1 rfl (Nat.le_of_ble_eq_true rfl) dL_acts_681 ⟨Nat.le_of_ble_eq_true rfl, Nat.le_of_ble_eq_true rfl⟩ (fun H locs hW hS => ?_)
      refine lv_isub hx hb dL_acts_684 ?_
      refine lv_icmp_ne (tgt := 707) hx hb dL_acts_685 (by decide) (fun c129 => ?_) (fun c129 => ?_)
      · have hsp := itF hsp c129
        cases hsp
      have hsp := itT hsp c129
      refine lv_aload_n hx hb dL_acts_688 rfl (lv_at hl 9 rfl) ?_
      refine lv_iload hx hb dL_acts_689 (lv_at hl 3 rfl) ?_
      refine lv_bipush (v := 8) hx hb dL_acts_691 (by decide) ?_
      obtain ⟨r130, hcr130, hsp⟩ := clE hsp
      refine call_o (As := [.int x117, .int 8]) (rest := []) (KO_panel (l := l) (D := D) (cI := cI) (cZ := cZ) (cC := cC) (cS := cS) (oa := oa) hcr130) hKU hW hS hA ⟨hx, hb, hml, hown, hts⟩ (cwV 2 hts gL_acts_X4_panel rfl rfl rfl nd_X4_panel ⟨Nat.le_of_ble_eq_true rfl, Nat.le_of_ble_eq_true rfl⟩) rfl hl.1 rfl (Nat.le_of_ble_eq_true rfl) dL_acts_693 ⟨Nat.le_of_ble_eq_true rfl, Nat.le_of_ble_eq_true rfl⟩ (fun H locs hW hS => ?_)
      refine lv_iload hx hb dL_acts_696 (lv_at hl 1 rfl) ?_
      refine lv_iconst (v := 1) hx hb dL_acts_698 (by decide) ?_
      refine lv_iadd hx hb dL_acts_699 ?_
      refine lv_icmp_ne (tgt := 707) hx hb dL_acts_700 (by decide) (fun c131 => ?_) (fun c131 => ?_)
      · have hsp := itF hsp c131
        cases hsp
      have hsp := itT hsp c131
      refine lv_iconst (v := 1) hx hb dL_acts_703 (by decide) ?_
      refine lv_goto (tgt := 708) hx hb dL_acts_704 (by decide) ?_
      have hres := Option.some.inj hsp
      subst hres
      exact W.zret (v := 1) hx hb hr (zE (Or.inr rfl)) (fun t ht _ => ⟨⟨1, (), rfl, ⟨rfl, (Or.inr rfl)⟩, W_at ht hW⟩, hS.F ht⟩) hS.2.2 dL_acts_708
    have hsp := itF hsp c122
    refine lv_iload hx hb dL_acts_632 (lv_at hl 0 rfl) ?_
    refine lv_bipush (v := (-5)) hx hb dL_acts_634 (by decide) ?_
    refine lv_icmp_ne (tgt := 643) hx hb dL_acts_636 (by decide) (fun c132 => ?_) (fun c132 => ?_)
    · have hsp := itF hsp c132
      cases hsp
    have hsp := itT hsp c132
    refine lv_iconst (v := 1) hx hb dL_acts_639 (by decide) ?_
    refine lv_goto (tgt := 708) hx hb dL_acts_640 (by decide) ?_
    have hres := Option.some.inj hsp
    subst hres
    exact W.zret (v := 1) hx hb hr (zE (Or.inr rfl)) (fun t ht _ => ⟨⟨1, (), rfl, ⟨rfl, (Or.inr rfl)⟩, W_at ht hW⟩, hS.F ht⟩) hS.2.2 dL_acts_708
  have hsp := itF hsp c116
  by_cases c133 : x7 = 9
  · have hsp := itT hsp c133
    refine lv_tableIn (off := 664) (tgt := 709) hx hb dL_acts_45 (by rw [c133]; decide) (by rw [c133]; decide) (by rw [c133]; decide) (by decide) ?_
    refine lv_aload_n hx hb dL_acts_709 rfl (lv_at hl 5 rfl) ?_
    refine lv_iconst (v := 5) hx hb dL_acts_710 (by decide) ?_
    obtain ⟨r134, hcr134, hsp⟩ := clE hsp
    refine call_o (As := [.int 5]) (rest := []) (KO_count (l := l) (D := D) (cI := cI) (cZ := cZ) (cC := cC) (cS := cS) (oa := oa) hcr134) hKU hW hS hA ⟨hx, hb, hml, hown, hts⟩ (cwV 1 hts gL_acts_X4_count rfl rfl rfl nd_X4_count ⟨Nat.le_of_ble_eq_true rfl, Nat.le_of_ble_eq_true rfl⟩) rfl hl.1 rfl (Nat.le_of_ble_eq_true rfl) dL_acts_711 ⟨Nat.le_of_ble_eq_true rfl, Nat.le_of_ble_eq_true rfl⟩ (fun H locs hW hS => ?_)
    refine lv_istore (lv' := [(23, .int r134), (6, .int r6), (5, .int r5), (4, .int x4), (3, .int x2), (2, .int x1), (0, .ref oa), (1, .int u1)]) hx hb dL_acts_714 hl (by decide) rfl (fun ls hl => ?_)
    refine lv_iload_n hx hb dL_acts_716 rfl (lv_at hl 7 rfl) ?_
    refine lv_iconst (v := 4) hx hb dL_acts_717 (by decide) ?_
    refine lv_ishr hx hb dL_acts_718 ?_
    refine lv_iconst (v := 3) hx hb dL_acts_719 (by decide) ?_
    obtain ⟨x135, ex135, hnx135, hsp⟩ := rmdE hsp
    refine lv_irem hx hb dL_acts_720 hnx135 ?_
    refine r_top ex135 ?_
    refine lv_if_ne (tgt := 764) hx hb dL_acts_721 (by decide) (fun c136 => ?_) (fun c136 => ?_)
    · have hsp := itF hsp c136
      refine lv_aload_n hx hb dL_acts_764 rfl (lv_at hl 6 rfl) ?_
      obtain ⟨r137, hcr137, hsp⟩ := clE hsp
      refine call_o (As := []) (rest := []) (KO_rinse (l := l) (D := D) (cI := cI) (cZ := cZ) (cC := cC) (cS := cS) (oa := oa) hcr137) hKU hW hS hA ⟨hx, hb, hml, hown, hts⟩ (cwV 0 hts gL_acts_X4_rinse rfl rfl rfl nd_X4_rinse ⟨Nat.le_of_ble_eq_true rfl, Nat.le_of_ble_eq_true rfl⟩) rfl hl.1 rfl (Nat.le_of_ble_eq_true rfl) dL_acts_765 ⟨Nat.le_of_ble_eq_true rfl, Nat.le_of_ble_eq_true rfl⟩ (fun H locs hW hS => ?_)
      have hW : WD D cI cS A oa r137.2 H := hW
      refine lv_iload hx hb dL_acts_768 (lv_at hl 1 rfl) ?_
      refine lv_icmp_ne (tgt := 808) hx hb dL_acts_770 (by decide) (fun c138 => ?_) (fun c138 => ?_)
      · have hsp := itF hsp c138
        cases hsp
      have hsp := itT hsp c138
      refine lv_aload_n hx hb dL_acts_773 rfl (lv_at hl 6 rfl) ?_
      refine lv_iconst (v := 4) hx hb dL_acts_774 (by decide) ?_
      obtain ⟨r139, hcr139, hsp⟩ := clE hsp
      refine call_o (As := [.int 4]) (rest := []) (KO_brush (l := l) (D := D) (cI := cI) (cZ := cZ) (cC := cC) (cS := cS) (oa := oa) hcr139) hKU hW hS hA ⟨hx, hb, hml, hown, hts⟩ (cwV 1 hts gL_acts_X4_brush rfl rfl rfl nd_X4_brush ⟨Nat.le_of_ble_eq_true rfl, Nat.le_of_ble_eq_true rfl⟩) rfl hl.1 rfl (Nat.le_of_ble_eq_true rfl) dL_acts_775 ⟨Nat.le_of_ble_eq_true rfl, Nat.le_of_ble_eq_true rfl⟩ (fun H locs hW hS => ?_)
      refine lv_if_ne (tgt := 808) hx hb dL_acts_778 (by decide) (fun c140 => ?_) (fun c140 => ?_)
      · have hsp := itF hsp c140
        cases hsp
      have hsp := itT hsp c140
      refine lv_aload_n hx hb dL_acts_781 rfl (lv_at hl 6 rfl) ?_
      refine lv_iconst (v := 5) hx hb dL_acts_782 (by decide) ?_
      obtain ⟨r141, hcr141, hsp⟩ := clE hsp
      refine call_o (As := [.int 5]) (rest := []) (KO_count (l := l) (D := D) (cI := cI) (cZ := cZ) (cC := cC) (cS := cS) (oa := oa) hcr141) hKU hW hS hA ⟨hx, hb, hml, hown, hts⟩ (cwV 1 hts gL_acts_X4_count rfl rfl rfl nd_X4_count ⟨Nat.le_of_ble_eq_true rfl, Nat.le_of_ble_eq_true rfl⟩) rfl hl.1 rfl (Nat.le_of_ble_eq_true rfl) dL_acts_783 ⟨Nat.le_of_ble_eq_true rfl, Nat.le_of_ble_eq_true rfl⟩ (fun H locs hW hS => ?_)
      refine lv_iload hx hb dL_acts_786 (lv_at hl 0 rfl) ?_
      refine lv_iload hx hb dL_acts_788 (lv_at hl 1 rfl) ?_
      refine lv_iadd hx hb dL_acts_790 ?_
      refine lv_icmp_ne (tgt := 808) hx hb dL_acts_791 (by decide) (fun c142 => ?_) (fun c142 => ?_)
      · have hsp := itF hsp c142
        cases hsp
      have hsp := itT hsp c142
      refine lv_aload_n hx hb dL_acts_794 rfl (lv_at hl 6 rfl) ?_
      refine lv_iconst (v := 5) hx hb dL_acts_795 (by decide) ?_
      obtain ⟨r143, hcr143, hsp⟩ := clE hsp
      refine call_o (As := [.int 5]) (rest := []) (KO_brush (l := l) (D := D) (cI := cI) (cZ := cZ) (cC := cC) (cS := cS) (oa := oa) hcr143) hKU hW hS hA ⟨hx, hb, hml, hown, hts⟩ (cwV 1 hts gL_acts_X4_brush rfl rfl rfl nd_X4_brush ⟨Nat.le_of_ble_eq_true rfl, Nat.le_of_ble_eq_true rfl⟩) rfl hl.1 rfl (Nat.le_of_ble_eq_true rfl) dL_acts_796 ⟨Nat.le_of_ble_eq_true rfl, Nat.le_of_ble_eq_true rfl⟩ (fun H locs hW hS => ?_)
      refine lv_bipush (v := (-6)) hx hb dL_acts_799 (by decide) ?_
      refine lv_icmp_ne (tgt := 808) hx hb dL_acts_801 (by decide) (fun c144 => ?_) (fun c144 => ?_)
      · have hsp := itF hsp c144
        cases hsp
      have hsp := itT hsp c144
      refine lv_iconst (v := 1) hx hb dL_acts_804 (by decide) ?_
      refine lv_goto (tgt := 809) hx hb dL_acts_805 (by decide) ?_
      have hres := Option.some.inj hsp
      subst hres
      exact W.zret (v := 1) hx hb hr (zE (Or.inr rfl)) (fun t ht _ => ⟨⟨1, (), rfl, ⟨rfl, (Or.inr rfl)⟩, W_at ht hW⟩, hS.F ht⟩) hS.2.2 dL_acts_809
    have hsp := itT hsp c136
    refine lv_aload_n hx hb dL_acts_724 rfl (lv_at hl 6 rfl) ?_
    refine lv_iload_n hx hb dL_acts_725 rfl (lv_at hl 5 rfl) ?_
    obtain ⟨r145, hcr145, hsp⟩ := clE hsp
    refine call_o (As := [.int x1]) (rest := []) (KO_empty (l := l) (D := D) (cI := cI) (cZ := cZ) (cC := cC) (cS := cS) (oa := oa) hcr145) hKU hW hS hA ⟨hx, hb, hml, hown, hts⟩ (cwV 1 hts gL_acts_X4_empty rfl rfl rfl nd_X4_empty ⟨Nat.le_of_ble_eq_true rfl, Nat.le_of_ble_eq_true rfl⟩) rfl hl.1 rfl (Nat.le_of_ble_eq_true rfl) dL_acts_726 ⟨Nat.le_of_ble_eq_true rfl, Nat.le_of_ble_eq_true rfl⟩ (fun H locs hW hS => ?_)
    have hW : WD D cI cS A oa r145.2 H := hW
    refine lv_iload hx hb dL_acts_729 (lv_at hl 2 rfl) ?_
    refine lv_icmp_ne (tgt := 760) hx hb dL_acts_731 (by decide) (fun c146 => ?_) (fun c146 => ?_)
    · have hsp := itF hsp c146
      cases hsp
    have hsp := itT hsp c146
    refine lv_aload_n hx hb dL_acts_734 rfl (lv_at hl 6 rfl) ?_
    refine lv_iconst (v := 5) hx hb dL_acts_735 (by decide) ?_
    obtain ⟨r147, hcr147, hsp⟩ := clE hsp
    refine call_o (As := [.int 5]) (rest := []) (KO_count (l := l) (D := D) (cI := cI) (cZ := cZ) (cC := cC) (cS := cS) (oa := oa) hcr147) hKU hW hS hA ⟨hx, hb, hml, hown, hts⟩ (cwV 1 hts gL_acts_X4_count rfl rfl rfl nd_X4_count ⟨Nat.le_of_ble_eq_true rfl, Nat.le_of_ble_eq_true rfl⟩) rfl hl.1 rfl (Nat.le_of_ble_eq_true rfl) dL_acts_736 ⟨Nat.le_of_ble_eq_true rfl, Nat.le_of_ble_eq_true rfl⟩ (fun H locs hW hS => ?_)
    refine lv_iload hx hb dL_acts_739 (lv_at hl 0 rfl) ?_
    refine lv_iload hx hb dL_acts_741 (lv_at hl 2 rfl) ?_
    refine lv_iadd hx hb dL_acts_743 ?_
    refine lv_icmp_ne (tgt := 760) hx hb dL_acts_744 (by decide) (fun c148 => ?_) (fun c148 => ?_)
    · have hsp := itF hsp c148
      cases hsp
    have hsp := itT hsp c148
    refine lv_aload_n hx hb dL_acts_747 rfl (lv_at hl 6 rfl) ?_
    refine lv_iload_n hx hb dL_acts_748 rfl (lv_at hl 5 rfl) ?_
    refine lv_iconst (v := 4) hx hb dL_acts_749 (by decide) ?_
    obtain ⟨r149, hcr149, hsp⟩ := clE hsp
    refine call_o (As := [.int x1, .int 4]) (rest := []) (KO_pot (l := l) (D := D) (cI := cI) (cZ := cZ) (cC := cC) (cS := cS) (oa := oa) hcr149) hKU hW hS hA ⟨hx, hb, hml, hown, hts⟩ (cwV 2 hts gL_acts_X4_pot rfl rfl rfl nd_X4_pot ⟨Nat.le_of_ble_eq_true rfl, Nat.le_of_ble_eq_true rfl⟩) rfl hl.1 rfl (Nat.le_of_ble_eq_true rfl) dL_acts_750 ⟨Nat.le_of_ble_eq_true rfl, Nat.le_of_ble_eq_true rfl⟩ (fun H locs hW hS => ?_)
    refine lv_if_ne (tgt := 760) hx hb dL_acts_753 (by decide) (fun c150 => ?_) (fun c150 => ?_)
    · have hsp := itF hsp c150
      cases hsp
    have hsp := itT hsp c150
    refine lv_iconst (v := 1) hx hb dL_acts_756 (by decide) ?_
    refine lv_goto (tgt := 809) hx hb dL_acts_757 (by decide) ?_
    have hres := Option.some.inj hsp
    subst hres
    exact W.zret (v := 1) hx hb hr (zE (Or.inr rfl)) (fun t ht _ => ⟨⟨1, (), rfl, ⟨rfl, (Or.inr rfl)⟩, W_at ht hW⟩, hS.F ht⟩) hS.2.2 dL_acts_809
  have hsp := itF hsp c133
  have tc8 := lv_neT (a := 0) c8 (by decide)
  have tc17 := lv_neT (a := 1) c17 (by decide)
  have tc26 := lv_neT (a := 2) c26 (by decide)
  have tc35 := lv_neT (a := 3) c35 (by decide)
  have tc48 := lv_neT (a := 4) c48 (by decide)
  have tc71 := lv_neT (a := 5) c71 (by decide)
  have tc94 := lv_neT (a := 6) c94 (by decide)
  have tc105 := lv_neT (a := 7) c105 (by decide)
  have tc116 := lv_neT (a := 8) c116 (by decide)
  have tc133 := lv_neT (a := 9) c133 (by decide)
  refine lv_tableOut (tgt := 810) hx hb dL_acts_45 (by omega) (by decide) ?_
  refine lv_iload_n hx hb dL_acts_810 rfl (lv_at hl 6 rfl) ?_
  refine lv_iconst (v := 4) hx hb dL_acts_811 (by decide) ?_
  refine lv_ishr hx hb dL_acts_812 ?_
  refine lv_bipush (v := 6) hx hb dL_acts_813 (by decide) ?_
  obtain ⟨x151, ex151, hnx151, hsp⟩ := rmdE hsp
  refine lv_irem hx hb dL_acts_815 hnx151 ?_
  refine r_top ex151 ?_
  refine lv_istore (lv' := [(24, .int x151), (6, .int r6), (5, .int r5), (4, .int x4), (3, .int x2), (2, .int x1), (0, .ref oa), (1, .int u1)]) hx hb dL_acts_816 hl (by decide) rfl (fun ls hl => ?_)
  refine lv_iload_n hx hb dL_acts_818 rfl (lv_at hl 7 rfl) ?_
  refine lv_bipush (v := 7) hx hb dL_acts_819 (by decide) ?_
  refine lv_ishr hx hb dL_acts_821 ?_
  refine lv_bipush (v := 101) hx hb dL_acts_822 (by decide) ?_
  obtain ⟨x152, ex152, hnx152, hsp⟩ := rmdE hsp
  refine lv_irem hx hb dL_acts_824 hnx152 ?_
  refine r_top ex152 ?_
  refine lv_istore (lv' := [(25, .int x152), (24, .int x151), (6, .int r6), (5, .int r5), (4, .int x4), (3, .int x2), (2, .int x1), (0, .ref oa), (1, .int u1)]) hx hb dL_acts_825 hl (by decide) rfl (fun ls hl => ?_)
  refine lv_iload_n hx hb dL_acts_827 rfl (lv_at hl 8 rfl) ?_
  refine lv_bipush (v := 14) hx hb dL_acts_828 (by decide) ?_
  refine lv_ishr hx hb dL_acts_830 ?_
  refine lv_bipush (v := 101) hx hb dL_acts_831 (by decide) ?_
  obtain ⟨x153, ex153, hnx153, hsp⟩ := rmdE hsp
  refine lv_irem hx hb dL_acts_833 hnx153 ?_
  refine r_top ex153 ?_
  refine lv_istore (lv' := [(26, .int x153), (25, .int x152), (24, .int x151), (6, .int r6), (5, .int r5), (4, .int x4), (3, .int x2), (2, .int x1), (0, .ref oa), (1, .int u1)]) hx hb dL_acts_834 hl (by decide) rfl (fun ls hl => ?_)
  refine lv_iload_n hx hb dL_acts_836 rfl (lv_at hl 9 rfl) ?_
  refine lv_bipush (v := 21) hx hb dL_acts_837 (by decide) ?_
  refine lv_ishr hx hb dL_acts_839 ?_
  refine lv_bipush (v := 101) hx hb dL_acts_840 (by decide) ?_
  obtain ⟨x154, ex154, hnx154, hsp⟩ := rmdE hsp
  refine lv_irem hx hb dL_acts_842 hnx154 ?_
  refine r_top ex154 ?_
  refine lv_istore (lv' := [(27, .int x154), (26, .int x153), (25, .int x152), (24, .int x151), (6, .int r6), (5, .int r5), (4, .int x4), (3, .int x2), (2, .int x1), (0, .ref oa), (1, .int u1)]) hx hb dL_acts_843 hl (by decide) rfl (fun ls hl => ?_)
  refine lv_iload_n hx hb dL_acts_845 rfl (lv_at hl 10 rfl) ?_
  refine lv_iconst (v := 3) hx hb dL_acts_846 (by decide) ?_
  refine lv_ishr hx hb dL_acts_847 ?_
  refine lv_iconst (v := 4) hx hb dL_acts_848 (by decide) ?_
  obtain ⟨x155, ex155, hnx155, hsp⟩ := rmdE hsp
  refine lv_irem hx hb dL_acts_849 hnx155 ?_
  refine r_top ex155 ?_
  refine lv_if_ne (tgt := 917) hx hb dL_acts_850 (by decide) (fun c156 => ?_) (fun c156 => ?_)
  · have hsp := itF hsp c156
    refine lv_aload_n hx hb dL_acts_917 rfl (lv_at hl 9 rfl) ?_
    refine lv_iload hx hb dL_acts_918 (lv_at hl 3 rfl) ?_
    refine lv_iload hx hb dL_acts_920 (lv_at hl 2 rfl) ?_
    refine lv_iload hx hb dL_acts_922 (lv_at hl 1 rfl) ?_
    refine lv_iload hx hb dL_acts_924 (lv_at hl 0 rfl) ?_
    obtain ⟨r157, hcr157, hsp⟩ := clE hsp
    refine call_o (As := [.int x151, .int x152, .int x153, .int x154]) (rest := []) (KO_want (l := l) (D := D) (cI := cI) (cZ := cZ) (cC := cC) (cS := cS) (oa := oa) hcr157) hKU hW hS hA ⟨hx, hb, hml, hown, hts⟩ (cwV 4 hts gL_acts_X4_want rfl rfl rfl nd_X4_want ⟨Nat.le_of_ble_eq_true rfl, Nat.le_of_ble_eq_true rfl⟩) rfl hl.1 rfl (Nat.le_of_ble_eq_true rfl) dL_acts_926 ⟨Nat.le_of_ble_eq_true rfl, Nat.le_of_ble_eq_true rfl⟩ (fun H locs hW hS => ?_)
    have hW : WD D cI cS A oa r157.2 H := hW
    refine lv_aload_n hx hb dL_acts_929 rfl (lv_at hl 9 rfl) ?_
    refine lv_bipush (v := 7) hx hb dL_acts_930 (by decide) ?_
    obtain ⟨r158, hcr158, hsp⟩ := clE hsp
    refine call_o (As := [.int 7]) (rest := [.int r157.1]) (KO_count (l := l) (D := D) (cI := cI) (cZ := cZ) (cC := cC) (cS := cS) (oa := oa) hcr158) hKU hW hS hA ⟨hx, hb, hml, hown, hts⟩ (cwV 1 hts gL_acts_X4_count rfl rfl rfl nd_X4_count ⟨Nat.le_of_ble_eq_true rfl, Nat.le_of_ble_eq_true rfl⟩) rfl hl.1 rfl (Nat.le_of_ble_eq_true rfl) dL_acts_932 ⟨Nat.le_of_ble_eq_true rfl, Nat.le_of_ble_eq_true rfl⟩ (fun H locs hW hS => ?_)
    refine lv_icmp_ne (tgt := 978) hx hb dL_acts_935 (by decide) (fun c159 => ?_) (fun c159 => ?_)
    · have hsp := itF hsp c159
      cases hsp
    have hsp := itT hsp c159
    refine lv_aload_n hx hb dL_acts_938 rfl (lv_at hl 9 rfl) ?_
    refine lv_iload hx hb dL_acts_939 (lv_at hl 3 rfl) ?_
    refine lv_iconst (v := 0) hx hb dL_acts_941 (by decide) ?_
    obtain ⟨r160, hcr160, hsp⟩ := clE hsp
    refine call_o (As := [.int x151, .int 0]) (rest := []) (KO_panel (l := l) (D := D) (cI := cI) (cZ := cZ) (cC := cC) (cS := cS) (oa := oa) hcr160) hKU hW hS hA ⟨hx, hb, hml, hown, hts⟩ (cwV 2 hts gL_acts_X4_panel rfl rfl rfl nd_X4_panel ⟨Nat.le_of_ble_eq_true rfl, Nat.le_of_ble_eq_true rfl⟩) rfl hl.1 rfl (Nat.le_of_ble_eq_true rfl) dL_acts_942 ⟨Nat.le_of_ble_eq_true rfl, Nat.le_of_ble_eq_true rfl⟩ (fun H locs hW hS => ?_)
    refine lv_iload hx hb dL_acts_945 (lv_at hl 2 rfl) ?_
    refine lv_icmp_ne (tgt := 978) hx hb dL_acts_947 (by decide) (fun c161 => ?_) (fun c161 => ?_)
    · have hsp := itF hsp c161
      cases hsp
    have hsp := itT hsp c161
    refine lv_aload_n hx hb dL_acts_950 rfl (lv_at hl 9 rfl) ?_
    refine lv_iload hx hb dL_acts_951 (lv_at hl 3 rfl) ?_
    refine lv_iconst (v := 1) hx hb dL_acts_953 (by decide) ?_
    obtain ⟨r162, hcr162, hsp⟩ := clE hsp
    refine call_o (As := [.int x151, .int 1]) (rest := []) (KO_panel (l := l) (D := D) (cI := cI) (cZ := cZ) (cC := cC) (cS := cS) (oa := oa) hcr162) hKU hW hS hA ⟨hx, hb, hml, hown, hts⟩ (cwV 2 hts gL_acts_X4_panel rfl rfl rfl nd_X4_panel ⟨Nat.le_of_ble_eq_true rfl, Nat.le_of_ble_eq_true rfl⟩) rfl hl.1 rfl (Nat.le_of_ble_eq_true rfl) dL_acts_954 ⟨Nat.le_of_ble_eq_true rfl, Nat.le_of_ble_eq_true rfl⟩ (fun H locs hW hS => ?_)
    refine lv_iload hx hb dL_acts_957 (lv_at hl 1 rfl) ?_
    refine lv_icmp_ne (tgt := 978) hx hb dL_acts_959 (by decide) (fun c163 => ?_) (fun c163 => ?_)
    · have hsp := itF hsp c163
      cases hsp
    have hsp := itT hsp c163
    refine lv_aload_n hx hb dL_acts_962 rfl (lv_at hl 9 rfl) ?_
    refine lv_iload hx hb dL_acts_963 (lv_at hl 3 rfl) ?_
    refine lv_iconst (v := 2) hx hb dL_acts_965 (by decide) ?_
    obtain ⟨r164, hcr164, hsp⟩ := clE hsp
    refine call_o (As := [.int x151, .int 2]) (rest := []) (KO_panel (l := l) (D := D) (cI := cI) (cZ := cZ) (cC := cC) (cS := cS) (oa := oa) hcr164) hKU hW hS hA ⟨hx, hb, hml, hown, hts⟩ (cwV 2 hts gL_acts_X4_panel rfl rfl rfl nd_X4_panel ⟨Nat.le_of_ble_eq_true rfl, Nat.le_of_ble_eq_true rfl⟩) rfl hl.1 rfl (Nat.le_of_ble_eq_true rfl) dL_acts_966 ⟨Nat.le_of_ble_eq_true rfl, Nat.le_of_ble_eq_true rfl⟩ (fun H locs hW hS => ?_)
    refine lv_iload hx hb dL_acts_969 (lv_at hl 0 rfl) ?_
    refine lv_icmp_ne (tgt := 978) hx hb dL_acts_971 (by decide) (fun c165 => ?_) (fun c165 => ?_)
    · have hsp := itF hsp c165
      cases hsp
    have hsp := itT hsp c165
    refine lv_iconst (v := 1) hx hb dL_acts_974 (by decide) ?_
    refine lv_goto (tgt := 979) hx hb dL_acts_975 (by decide) ?_
    have hres := Option.some.inj hsp
    subst hres
    exact W.zret (v := 1) hx hb hr (zE (Or.inr rfl)) (fun t ht _ => ⟨⟨1, (), rfl, ⟨rfl, (Or.inr rfl)⟩, W_at ht hW⟩, hS.F ht⟩) hS.2.2 dL_acts_979
  have hsp := itT hsp c156
  refine lv_aload_n hx hb dL_acts_853 rfl (lv_at hl 9 rfl) ?_
  refine lv_iconst (v := 1) hx hb dL_acts_854 (by decide) ?_
  refine lv_iload hx hb dL_acts_855 (lv_at hl 2 rfl) ?_
  refine lv_bipush (v := 61) hx hb dL_acts_857 (by decide) ?_
  obtain ⟨x166, ex166, hnx166, hsp⟩ := rmdE hsp
  refine lv_irem hx hb dL_acts_859 hnx166 ?_
  refine r_top ex166 ?_
  obtain ⟨r167, hcr167, hsp⟩ := clE hsp
  refine call_o (As := [.int 1, .int x166]) (rest := []) (KO_set (l := l) (D := D) (cI := cI) (cZ := cZ) (cC := cC) (cS := cS) (oa := oa) hcr167) hKU hW hS hA ⟨hx, hb, hml, hown, hts⟩ (cwV 2 hts gL_acts_X4_set rfl rfl rfl nd_X4_set ⟨Nat.le_of_ble_eq_true rfl, Nat.le_of_ble_eq_true rfl⟩) rfl hl.1 rfl (Nat.le_of_ble_eq_true rfl) dL_acts_860 ⟨Nat.le_of_ble_eq_true rfl, Nat.le_of_ble_eq_true rfl⟩ (fun H locs hW hS => ?_)
  have hW : WD D cI cS A oa r167.2 H := hW
  refine lv_if_lt (tgt := 913) hx hb dL_acts_863 (by decide) (fun c168 => ?_) (fun c168 => ?_)
  · have hsp := itT hsp c168
    cases hsp
  have hsp := itF hsp c168
  refine lv_aload_n hx hb dL_acts_866 rfl (lv_at hl 9 rfl) ?_
  refine lv_iconst (v := 1) hx hb dL_acts_867 (by decide) ?_
  obtain ⟨r169, hcr169, hsp⟩ := clE hsp
  refine call_o (As := [.int 1]) (rest := []) (KO_count (l := l) (D := D) (cI := cI) (cZ := cZ) (cC := cC) (cS := cS) (oa := oa) hcr169) hKU hW hS hA ⟨hx, hb, hml, hown, hts⟩ (cwV 1 hts gL_acts_X4_count rfl rfl rfl nd_X4_count ⟨Nat.le_of_ble_eq_true rfl, Nat.le_of_ble_eq_true rfl⟩) rfl hl.1 rfl (Nat.le_of_ble_eq_true rfl) dL_acts_868 ⟨Nat.le_of_ble_eq_true rfl, Nat.le_of_ble_eq_true rfl⟩ (fun H locs hW hS => ?_)
  refine lv_iload hx hb dL_acts_871 (lv_at hl 2 rfl) ?_
  refine lv_bipush (v := 61) hx hb dL_acts_873 (by decide) ?_
  obtain ⟨x170, ex170, hnx170, hsp⟩ := rmdE hsp
  refine lv_irem hx hb dL_acts_875 hnx170 ?_
  refine r_top ex170 ?_
  refine lv_icmp_ne (tgt := 913) hx hb dL_acts_876 (by decide) (fun c171 => ?_) (fun c171 => ?_)
  · have hsp := itF hsp c171
    cases hsp
  have hsp := itT hsp c171
  refine lv_aload_n hx hb dL_acts_879 rfl (lv_at hl 9 rfl) ?_
  refine lv_iconst (v := 0) hx hb dL_acts_880 (by decide) ?_
  refine lv_iconst (v := 1) hx hb dL_acts_881 (by decide) ?_
  refine lv_iload hx hb dL_acts_882 (lv_at hl 1 rfl) ?_
  refine lv_bipush (v := 9) hx hb dL_acts_884 (by decide) ?_
  obtain ⟨x172, ex172, hnx172, hsp⟩ := rmdE hsp
  refine lv_irem hx hb dL_acts_886 hnx172 ?_
  refine r_top ex172 ?_
  refine lv_iadd hx hb dL_acts_887 ?_
  obtain ⟨r173, hcr173, hsp⟩ := clE hsp
  refine call_o (As := [.int 0, .int (1 + x172)]) (rest := []) (KO_set (l := l) (D := D) (cI := cI) (cZ := cZ) (cC := cC) (cS := cS) (oa := oa) hcr173) hKU hW hS hA ⟨hx, hb, hml, hown, hts⟩ (cwV 2 hts gL_acts_X4_set rfl rfl rfl nd_X4_set ⟨Nat.le_of_ble_eq_true rfl, Nat.le_of_ble_eq_true rfl⟩) rfl hl.1 rfl (Nat.le_of_ble_eq_true rfl) dL_acts_888 ⟨Nat.le_of_ble_eq_true rfl, Nat.le_of_ble_eq_true rfl⟩ (fun H locs hW hS => ?_)
  have hW : WD D cI cS A oa r173.2 H := hW
  refine lv_if_le (tgt := 913) hx hb dL_acts_891 (by decide) (fun c174 => ?_) (fun c174 => ?_)
  · have hsp := itT hsp c174
    cases hsp
  have hsp := itF hsp c174
  refine lv_aload_n hx hb dL_acts_894 rfl (lv_at hl 9 rfl) ?_
  refine lv_iconst (v := 0) hx hb dL_acts_895 (by decide) ?_
  obtain ⟨r175, hcr175, hsp⟩ := clE hsp
  refine call_o (As := [.int 0]) (rest := []) (KO_count (l := l) (D := D) (cI := cI) (cZ := cZ) (cC := cC) (cS := cS) (oa := oa) hcr175) hKU hW hS hA ⟨hx, hb, hml, hown, hts⟩ (cwV 1 hts gL_acts_X4_count rfl rfl rfl nd_X4_count ⟨Nat.le_of_ble_eq_true rfl, Nat.le_of_ble_eq_true rfl⟩) rfl hl.1 rfl (Nat.le_of_ble_eq_true rfl) dL_acts_896 ⟨Nat.le_of_ble_eq_true rfl, Nat.le_of_ble_eq_true rfl⟩ (fun H locs hW hS => ?_)
  refine lv_iconst (v := 1) hx hb dL_acts_899 (by decide) ?_
  refine lv_iload hx hb dL_acts_900 (lv_at hl 1 rfl) ?_
  refine lv_bipush (v := 9) hx hb dL_acts_902 (by decide) ?_
  obtain ⟨x176, ex176, hnx176, hsp⟩ := rmdE hsp
  refine lv_irem hx hb dL_acts_904 hnx176 ?_
  refine r_top ex176 ?_
  refine lv_iadd hx hb dL_acts_905 ?_
  refine lv_icmp_ne (tgt := 913) hx hb dL_acts_906 (by decide) (fun c177 => ?_) (fun c177 => ?_)
  · have hsp := itF hsp c177
    cases hsp
  have hsp := itT hsp c177
  refine lv_iconst (v := 1) hx hb dL_acts_909 (by decide) ?_
  refine lv_goto (tgt := 979) hx hb dL_acts_910 (by decide) ?_
  have hres := Option.some.inj hsp
  subst hres
  exact W.zret (v := 1) hx hb hr (zE (Or.inr rfl)) (fun t ht _ => ⟨⟨1, (), rfl, ⟨rfl, (Or.inr rfl)⟩, W_at ht hW⟩, hS.F ht⟩) hS.2.2 dL_acts_979
