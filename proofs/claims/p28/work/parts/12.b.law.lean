noncomputable def s_L_law_X1   (t1 : Ab) : Option (Int32) := cl (a_count t1 3) fun r16 => cl (a_count t1 5) fun r17 => cl (s_L_areDrops t1) fun r18 => if r18 = 0 then (none) else (cl (s_L_areNear t1) fun r20 => if r20 = 0 then (none) else (cl (a_save t1 1) fun r22 => if r22.1 = r16 then (cl (a_rinse r22.2) fun r24 => if r24.1 < 0 then (none) else (cl (a_empty r24.2 0) fun r26 => if r26.1 < 0 then (none) else (cl (a_empty r26.2 1) fun r28 => if r28.1 < 0 then (none) else (cl (a_restore_s r28.2 1) fun r30 => if r30.1 = r16 then (cl (a_count r30.2 5) fun r32 => if r32 = r17 then (cl (a_undo r30.2) fun r34 => if r34.1 < 0 then (none) else (cl (a_pot r34.2 0 4) fun r36 => if r36 = 0 then (cl (a_pot r34.2 1 4) fun r38 => if r38 = 0 then (some 1) else (none)) else (none))) else (none)) else (none))))) else (none)))
noncomputable def s_L_law_B1  (L : Nat) (xs : Nat → Int32) (kk1 : Ab → Option (Int32)) (bk1 : Int32 × Ab → Option (Int32)) (x13 : Int32) (y14 : Ab) : Option (Int32) := if 44 ≤ x13 then (kk1 y14) else (cl (s_L_cell L xs x13) fun r41 => cl (s_L_acts y14 r41) fun r42 => if r42.1 = 0 then (none) else (rmd x13 15 fun x44 => if 0 < x44 then (nm (x13 + 1) fun x46 => bk1 (x46, r42.2)) else (cl (s_L_areDrops r42.2) fun r47 => if r47 = 0 then (none) else (nm (x13 + 1) fun x49 => bk1 (x49, r42.2)))))
noncomputable def s_L_law_L1  (L : Nat) (xs : Nat → Int32) (kk1 : Ab → Option (Int32)) : Nat → (Int32 × Ab) → Option (Int32)
  | 0, _ => none
  | n + 1, tv => s_L_law_B1 L xs kk1 (s_L_law_L1 L xs kk1 n) tv.1 tv.2
noncomputable def s_L_law (L : Nat) (xs : Nat → Int32) (f0 : Ab) : Option (Int32) := cl (a_undo f0) fun r1 => if r1.1 = (-5) then (cl (a_restore_n r1.2 1) fun r3 => if r3.1 = (-5) then (cl (a_nearest r3.2 0 0) fun r5 => if r5 = (-6) then (cl (a_bestMixture r3.2 0 0) fun r7 => if r7 = (-6) then (cl (a_brush r3.2 5) fun r9 => if r9 = (-6) then (cl (a_panel r3.2 0 6) fun r11 => if r11 = (-6) then (s_L_law_L1 L xs (s_L_law_X1) 1000 (0, r3.2)) else (none)) else (none)) else (none)) else (none)) else (none)) else (none)

set_option maxHeartbeats 16000000 in
set_option maxRecDepth 100000 in
theorem law_rest {p : Program} {l : Launch} {e : Env} {s : State} {m : MethodId} {below : List Frame} {meth : Method} {c : Code} {b0 L oa : Nat} {xs : Nat → Int32} {D : va_G} {cI cZ cC cS : ClassId} {A : Nat → Prop} {f0 : Ab} (hx : p.tables.exec = Jvm.exec) (hb : c.code = cL_law) (hr : meth.sig.returnType = ret) (hlocks : meth.locks = false) (hml : c.maxLocals = 5) (hown : s.vm.findClass RL = some m.cls) (hts : ∀ w ∈ wsL_law, w.before #[Value.ref b0] s = true) (hX : va_X b0 L xs s s.heap) (hbl : b0 < s.heap.size) (hKU : KU D cI cZ cC cS s) (hA : ∀ q : Nat, s.heap.size ≤ q → A q) (hA2 : ∀ q : Nat, A q → s.heap.size ≤ q) (hbA : ¬ A b0) (hsp : s_L_law L xs f0 = some 1) : ∀ (H : Heap) (locs : List Loc), WD D cI cS A oa f0 H → va_S A s.heap H locs → ∀ ls : Array Slot, lv_has ls 5 [(0, .ref b0), (1, .ref oa)] → W p l e room_1 s m #[Value.ref b0] below meth c H locs 85 982 (lw_Z below #[Value.ref b0] s) (F0 m 8 ls []) := by
  intro H locs hW hS ls hl
  generalize hre : (1 : Int32) = res at hsp
  unfold s_L_law at hsp
  refine lv_aload_n hx hb dL_law_8 rfl (lv_at hl 1 rfl) ?_
  obtain ⟨r1, hcr1, hsp⟩ := clE hsp
  refine call_o (As := []) (rest := []) (KO_undo (l := l) (D := D) (cI := cI) (cZ := cZ) (cC := cC) (cS := cS) (oa := oa) hcr1) hKU hW hS hA ⟨hx, hb, hml, hown, hts⟩ (cwV 0 hts gL_law_X4_undo rfl rfl rfl nd_X4_undo ⟨Nat.le_of_ble_eq_true rfl, Nat.le_of_ble_eq_true rfl⟩) rfl hl.1 rfl (Nat.le_of_ble_eq_true rfl) dL_law_9 ⟨Nat.le_of_ble_eq_true rfl, Nat.le_of_ble_eq_true rfl⟩ (fun H locs hW hS => ?_)
  have hW : WD D cI cS A oa r1.2 H := hW
  refine lv_bipush (v := (-5)) hx hb dL_law_12 (by decide) ?_
  refine lv_icmp_ne (tgt := 75) hx hb dL_law_14 (by decide) (fun c2 => ?_) (fun c2 => ?_)
  · have hsp := itF hsp c2
    cases hsp
  have hsp := itT hsp c2
  refine lv_aload_n hx hb dL_law_17 rfl (lv_at hl 1 rfl) ?_
  refine lv_iconst (v := 1) hx hb dL_law_18 (by decide) ?_
  obtain ⟨r3, hcr3, hsp⟩ := clE hsp
  refine call_o (As := [.int 1]) (rest := []) (KO_restore_n (l := l) (D := D) (cI := cI) (cZ := cZ) (cC := cC) (cS := cS) (oa := oa) hcr3) hKU hW hS hA ⟨hx, hb, hml, hown, hts⟩ (cwV 1 hts gL_law_X4_restore rfl rfl rfl nd_X4_restore ⟨Nat.le_of_ble_eq_true rfl, Nat.le_of_ble_eq_true rfl⟩) rfl hl.1 rfl (Nat.le_of_ble_eq_true rfl) dL_law_19 ⟨Nat.le_of_ble_eq_true rfl, Nat.le_of_ble_eq_true rfl⟩ (fun H locs hW hS => ?_)
  have hW : WD D cI cS A oa r3.2 H := hW
  refine lv_bipush (v := (-5)) hx hb dL_law_22 (by decide) ?_
  refine lv_icmp_ne (tgt := 75) hx hb dL_law_24 (by decide) (fun c4 => ?_) (fun c4 => ?_)
  · have hsp := itF hsp c4
    cases hsp
  have hsp := itT hsp c4
  refine lv_aload_n hx hb dL_law_27 rfl (lv_at hl 1 rfl) ?_
  refine lv_iconst (v := 0) hx hb dL_law_28 (by decide) ?_
  refine lv_iconst (v := 0) hx hb dL_law_29 (by decide) ?_
  obtain ⟨r5, hcr5, hsp⟩ := clE hsp
  refine call_o (As := [.int 0, .int 0]) (rest := []) (KO_nearest (l := l) (D := D) (cI := cI) (cZ := cZ) (cC := cC) (cS := cS) (oa := oa) hcr5) hKU hW hS hA ⟨hx, hb, hml, hown, hts⟩ (cwV 2 hts gL_law_X4_nearest rfl rfl rfl nd_X4_nearest ⟨Nat.le_of_ble_eq_true rfl, Nat.le_of_ble_eq_true rfl⟩) rfl hl.1 rfl (Nat.le_of_ble_eq_true rfl) dL_law_30 ⟨Nat.le_of_ble_eq_true rfl, Nat.le_of_ble_eq_true rfl⟩ (fun H locs hW hS => ?_)
  refine lv_bipush (v := (-6)) hx hb dL_law_33 (by decide) ?_
  refine lv_icmp_ne (tgt := 75) hx hb dL_law_35 (by decide) (fun c6 => ?_) (fun c6 => ?_)
  · have hsp := itF hsp c6
    cases hsp
  have hsp := itT hsp c6
  refine lv_aload_n hx hb dL_law_38 rfl (lv_at hl 1 rfl) ?_
  refine lv_iconst (v := 0) hx hb dL_law_39 (by decide) ?_
  refine lv_iconst (v := 0) hx hb dL_law_40 (by decide) ?_
  obtain ⟨r7, hcr7, hsp⟩ := clE hsp
  refine call_o (As := [.int 0, .int 0]) (rest := []) (KO_bestMixture (l := l) (D := D) (cI := cI) (cZ := cZ) (cC := cC) (cS := cS) (oa := oa) hcr7) hKU hW hS hA ⟨hx, hb, hml, hown, hts⟩ (cwV 2 hts gL_law_X4_bestMixture rfl rfl rfl nd_X4_bestMixture ⟨Nat.le_of_ble_eq_true rfl, Nat.le_of_ble_eq_true rfl⟩) rfl hl.1 rfl (Nat.le_of_ble_eq_true rfl) dL_law_41 ⟨Nat.le_of_ble_eq_true rfl, Nat.le_of_ble_eq_true rfl⟩ (fun H locs hW hS => ?_)
  refine lv_bipush (v := (-6)) hx hb dL_law_44 (by decide) ?_
  refine lv_icmp_ne (tgt := 75) hx hb dL_law_46 (by decide) (fun c8 => ?_) (fun c8 => ?_)
  · have hsp := itF hsp c8
    cases hsp
  have hsp := itT hsp c8
  refine lv_aload_n hx hb dL_law_49 rfl (lv_at hl 1 rfl) ?_
  refine lv_iconst (v := 5) hx hb dL_law_50 (by decide) ?_
  obtain ⟨r9, hcr9, hsp⟩ := clE hsp
  refine call_o (As := [.int 5]) (rest := []) (KO_brush (l := l) (D := D) (cI := cI) (cZ := cZ) (cC := cC) (cS := cS) (oa := oa) hcr9) hKU hW hS hA ⟨hx, hb, hml, hown, hts⟩ (cwV 1 hts gL_law_X4_brush rfl rfl rfl nd_X4_brush ⟨Nat.le_of_ble_eq_true rfl, Nat.le_of_ble_eq_true rfl⟩) rfl hl.1 rfl (Nat.le_of_ble_eq_true rfl) dL_law_51 ⟨Nat.le_of_ble_eq_true rfl, Nat.le_of_ble_eq_true rfl⟩ (fun H locs hW hS => ?_)
  refine lv_bipush (v := (-6)) hx hb dL_law_54 (by decide) ?_
  refine lv_icmp_ne (tgt := 75) hx hb dL_law_56 (by decide) (fun c10 => ?_) (fun c10 => ?_)
  · have hsp := itF hsp c10
    cases hsp
  have hsp := itT hsp c10
  refine lv_aload_n hx hb dL_law_59 rfl (lv_at hl 1 rfl) ?_
  refine lv_iconst (v := 0) hx hb dL_law_60 (by decide) ?_
  refine lv_bipush (v := 6) hx hb dL_law_61 (by decide) ?_
  obtain ⟨r11, hcr11, hsp⟩ := clE hsp
  refine call_o (As := [.int 0, .int 6]) (rest := []) (KO_panel (l := l) (D := D) (cI := cI) (cZ := cZ) (cC := cC) (cS := cS) (oa := oa) hcr11) hKU hW hS hA ⟨hx, hb, hml, hown, hts⟩ (cwV 2 hts gL_law_X4_panel rfl rfl rfl nd_X4_panel ⟨Nat.le_of_ble_eq_true rfl, Nat.le_of_ble_eq_true rfl⟩) rfl hl.1 rfl (Nat.le_of_ble_eq_true rfl) dL_law_63 ⟨Nat.le_of_ble_eq_true rfl, Nat.le_of_ble_eq_true rfl⟩ (fun H locs hW hS => ?_)
  refine lv_bipush (v := (-6)) hx hb dL_law_66 (by decide) ?_
  refine lv_icmp_ne (tgt := 75) hx hb dL_law_68 (by decide) (fun c12 => ?_) (fun c12 => ?_)
  · have hsp := itF hsp c12
    cases hsp
  have hsp := itT hsp c12
  refine lv_iconst (v := 1) hx hb dL_law_71 (by decide) ?_
  refine lv_goto (tgt := 76) hx hb dL_law_72 (by decide) ?_
  refine lv_istore_n (lv' := [(2, .int 1), (0, .ref b0), (1, .ref oa)]) hx hb dL_law_76 rfl hl (by decide) rfl (fun ls hl => ?_)
  refine lv_iconst (v := 0) hx hb dL_law_77 (by decide) ?_
  refine lv_istore_n (lv' := [(3, .int 0), (2, .int 1), (0, .ref b0), (1, .ref oa)]) hx hb dL_law_78 rfl hl (by decide) rfl (fun ls hl => ?_)
  refine ex_o (K := s_L_law_X1) (PH := fun (t1 : Ab) => WD D cI cS A oa (t1)) (L := fun (t1 : Ab) => [(1, .ref oa), (2, .int 1)]) (nL := 5) (pcx := 127) (res := res) (A := A) (H0 := s.heap) ?_ (fun hx1 => ?_)
  · intro t1 H locs hsp hW hS ls hl
    obtain ⟨y15, rfl⟩ : ∃ z, z = t1 := ⟨_, rfl⟩
    unfold s_L_law_X1 at hsp; try dsimp only at hsp
    have hW : WD D cI cS A oa y15 H := hW
    have hl : lv_has ls 5 [(1, .ref oa), (2, .int 1)] := hl
    refine lv_aload_n hx hb dL_law_127 rfl (lv_at hl 0 rfl) ?_
    refine lv_iconst (v := 3) hx hb dL_law_128 (by decide) ?_
    obtain ⟨r16, hcr16, hsp⟩ := clE hsp
    refine call_o (As := [.int 3]) (rest := []) (KO_count (l := l) (D := D) (cI := cI) (cZ := cZ) (cC := cC) (cS := cS) (oa := oa) hcr16) hKU hW hS hA ⟨hx, hb, hml, hown, hts⟩ (cwV 1 hts gL_law_X4_count rfl rfl rfl nd_X4_count ⟨Nat.le_of_ble_eq_true rfl, Nat.le_of_ble_eq_true rfl⟩) rfl hl.1 rfl (Nat.le_of_ble_eq_true rfl) dL_law_129 ⟨Nat.le_of_ble_eq_true rfl, Nat.le_of_ble_eq_true rfl⟩ (fun H locs hW hS => ?_)
    refine lv_istore_n (lv' := [(3, .int r16), (1, .ref oa), (2, .int 1)]) hx hb dL_law_132 rfl hl (by decide) rfl (fun ls hl => ?_)
    refine lv_aload_n hx hb dL_law_133 rfl (lv_at hl 1 rfl) ?_
    refine lv_iconst (v := 5) hx hb dL_law_134 (by decide) ?_
    obtain ⟨r17, hcr17, hsp⟩ := clE hsp
    refine call_o (As := [.int 5]) (rest := []) (KO_count (l := l) (D := D) (cI := cI) (cZ := cZ) (cC := cC) (cS := cS) (oa := oa) hcr17) hKU hW hS hA ⟨hx, hb, hml, hown, hts⟩ (cwV 1 hts gL_law_X4_count rfl rfl rfl nd_X4_count ⟨Nat.le_of_ble_eq_true rfl, Nat.le_of_ble_eq_true rfl⟩) rfl hl.1 rfl (Nat.le_of_ble_eq_true rfl) dL_law_135 ⟨Nat.le_of_ble_eq_true rfl, Nat.le_of_ble_eq_true rfl⟩ (fun H locs hW hS => ?_)
    refine lv_istore (lv' := [(4, .int r17), (3, .int r16), (1, .ref oa), (2, .int 1)]) hx hb dL_law_138 hl (by decide) rfl (fun ls hl => ?_)
    refine lv_iload_n hx hb dL_law_140 rfl (lv_at hl 3 rfl) ?_
    refine lv_if_eq (tgt := 213) hx hb dL_law_141 (by decide) (fun hc => absurd hc (by decide)) (fun _ => ?_)
    refine lv_aload_n hx hb dL_law_144 rfl (lv_at hl 2 rfl) ?_
    obtain ⟨r18, hcr18, hsp⟩ := clE hsp
    refine call_s (x' := y15) (res := r18) (As := []) (rest := []) (Pz := r18 = 0 ∨ r18 = 1) (fun w sz hO => k_L_areDrops l D cI cZ cC cS sz w oa y15 hO  r18 hcr18) hKU hW hS hA ⟨hx, hb, hml, hown, hts⟩ (va_cwS 1 hts gL_law_L_areDrops rfl rfl rfl nd_L_areDrops.2 ⟨Nat.le_of_ble_eq_true rfl, Nat.le_of_ble_eq_true rfl⟩) rfl hl.1 rfl (Nat.le_of_ble_eq_true rfl) dL_law_145 ⟨Nat.le_of_ble_eq_true rfl, Nat.le_of_ble_eq_true rfl⟩ (fun H locs hW hS hzr18 => ?_)
    have hW : WD D cI cS A oa y15 H := hW
    refine lv_if_eq (tgt := 213) hx hb dL_law_148 (by decide) (fun c19 => ?_) (fun c19 => ?_)
    · have hsp := itT hsp c19
      cases hsp
    have hsp := itF hsp c19
    refine lv_aload_n hx hb dL_law_151 rfl (lv_at hl 2 rfl) ?_
    obtain ⟨r20, hcr20, hsp⟩ := clE hsp
    refine call_s (x' := y15) (res := r20) (As := []) (rest := []) (Pz := r20 = 0 ∨ r20 = 1) (fun w sz hO => k_L_areNear l D cI cZ cC cS sz w oa y15 hO  r20 hcr20) hKU hW hS hA ⟨hx, hb, hml, hown, hts⟩ (va_cwS 1 hts gL_law_L_areNear rfl rfl rfl nd_L_areNear.2 ⟨Nat.le_of_ble_eq_true rfl, Nat.le_of_ble_eq_true rfl⟩) rfl hl.1 rfl (Nat.le_of_ble_eq_true rfl) dL_law_152 ⟨Nat.le_of_ble_eq_true rfl, Nat.le_of_ble_eq_true rfl⟩ (fun H locs hW hS hzr20 => ?_)
    have hW : WD D cI cS A oa y15 H := hW
    refine lv_if_eq (tgt := 213) hx hb dL_law_155 (by decide) (fun c21 => ?_) (fun c21 => ?_)
    · have hsp := itT hsp c21
      cases hsp
    have hsp := itF hsp c21
    refine lv_aload_n hx hb dL_law_158 rfl (lv_at hl 2 rfl) ?_
    refine lv_iconst (v := 1) hx hb dL_law_159 (by decide) ?_
    obtain ⟨r22, hcr22, hsp⟩ := clE hsp
    refine call_oa (As := [.int 1]) (rest := []) (KO_save (l := l) (D := D) (cI := cI) (cZ := cZ) (cC := cC) (cS := cS) (oa := oa) hcr22) hKU hW hS hA ⟨hx, hb, hml, hown, hts⟩ (cwV 1 hts gL_law_X4_save rfl rfl rfl nd_X4_save ⟨Nat.le_of_ble_eq_true rfl, Nat.le_of_ble_eq_true rfl⟩) rfl hl.1 rfl (Nat.le_of_ble_eq_true rfl) dL_law_160 ⟨Nat.le_of_ble_eq_true rfl, Nat.le_of_ble_eq_true rfl⟩ (fun H locs hW hS => ?_)
    refine W.widen (k := 94) (n := 1090) (Nat.le_of_ble_eq_true rfl) (Nat.le_of_ble_eq_true rfl) ?_
    have hW : WD D cI cS A oa r22.2 H := hW
    refine lv_iload_n hx hb dL_law_163 rfl (lv_at hl 1 rfl) ?_
    refine lv_icmp_ne (tgt := 213) hx hb dL_law_164 (by decide) (fun c23 => ?_) (fun c23 => ?_)
    · have hsp := itF hsp c23
      cases hsp
    have hsp := itT hsp c23
    refine lv_aload_n hx hb dL_law_167 rfl (lv_at hl 2 rfl) ?_
    obtain ⟨r24, hcr24, hsp⟩ := clE hsp
    refine call_o (As := []) (rest := []) (KO_rinse (l := l) (D := D) (cI := cI) (cZ := cZ) (cC := cC) (cS := cS) (oa := oa) hcr24) hKU hW hS hA ⟨hx, hb, hml, hown, hts⟩ (cwV 0 hts gL_law_X4_rinse rfl rfl rfl nd_X4_rinse ⟨Nat.le_of_ble_eq_true rfl, Nat.le_of_ble_eq_true rfl⟩) rfl hl.1 rfl (Nat.le_of_ble_eq_true rfl) dL_law_168 ⟨Nat.le_of_ble_eq_true rfl, Nat.le_of_ble_eq_true rfl⟩ (fun H locs hW hS => ?_)
    have hW : WD D cI cS A oa r24.2 H := hW
    refine lv_if_lt (tgt := 213) hx hb dL_law_171 (by decide) (fun c25 => ?_) (fun c25 => ?_)
    · have hsp := itT hsp c25
      cases hsp
    have hsp := itF hsp c25
    refine lv_aload_n hx hb dL_law_174 rfl (lv_at hl 2 rfl) ?_
    refine lv_iconst (v := 0) hx hb dL_law_175 (by decide) ?_
    obtain ⟨r26, hcr26, hsp⟩ := clE hsp
    refine call_o (As := [.int 0]) (rest := []) (KO_empty (l := l) (D := D) (cI := cI) (cZ := cZ) (cC := cC) (cS := cS) (oa := oa) hcr26) hKU hW hS hA ⟨hx, hb, hml, hown, hts⟩ (cwV 1 hts gL_law_X4_empty rfl rfl rfl nd_X4_empty ⟨Nat.le_of_ble_eq_true rfl, Nat.le_of_ble_eq_true rfl⟩) rfl hl.1 rfl (Nat.le_of_ble_eq_true rfl) dL_law_176 ⟨Nat.le_of_ble_eq_true rfl, Nat.le_of_ble_eq_true rfl⟩ (fun H locs hW hS => ?_)
    have hW : WD D cI cS A oa r26.2 H := hW
    refine lv_if_lt (tgt := 213) hx hb dL_law_179 (by decide) (fun c27 => ?_) (fun c27 => ?_)
    · have hsp := itT hsp c27
      cases hsp
    have hsp := itF hsp c27
    refine lv_aload_n hx hb dL_law_182 rfl (lv_at hl 2 rfl) ?_
    refine lv_iconst (v := 1) hx hb dL_law_183 (by decide) ?_
    obtain ⟨r28, hcr28, hsp⟩ := clE hsp
    refine call_o (As := [.int 1]) (rest := []) (KO_empty (l := l) (D := D) (cI := cI) (cZ := cZ) (cC := cC) (cS := cS) (oa := oa) hcr28) hKU hW hS hA ⟨hx, hb, hml, hown, hts⟩ (cwV 1 hts gL_law_X4_empty rfl rfl rfl nd_X4_empty ⟨Nat.le_of_ble_eq_true rfl, Nat.le_of_ble_eq_true rfl⟩) rfl hl.1 rfl (Nat.le_of_ble_eq_true rfl) dL_law_184 ⟨Nat.le_of_ble_eq_true rfl, Nat.le_of_ble_eq_true rfl⟩ (fun H locs hW hS => ?_)
    have hW : WD D cI cS A oa r28.2 H := hW
    refine lv_if_lt (tgt := 213) hx hb dL_law_187 (by decide) (fun c29 => ?_) (fun c29 => ?_)
    · have hsp := itT hsp c29
      cases hsp
    have hsp := itF hsp c29
    refine lv_aload_n hx hb dL_law_190 rfl (lv_at hl 2 rfl) ?_
    refine lv_iconst (v := 1) hx hb dL_law_191 (by decide) ?_
    obtain ⟨r30, hcr30, hsp⟩ := clE hsp
    refine call_o (As := [.int 1]) (rest := []) (KO_restore_s (l := l) (D := D) (cI := cI) (cZ := cZ) (cC := cC) (cS := cS) (oa := oa) hcr30) hKU hW hS hA ⟨hx, hb, hml, hown, hts⟩ (cwV 1 hts gL_law_X4_restore rfl rfl rfl nd_X4_restore ⟨Nat.le_of_ble_eq_true rfl, Nat.le_of_ble_eq_true rfl⟩) rfl hl.1 rfl (Nat.le_of_ble_eq_true rfl) dL_law_192 ⟨Nat.le_of_ble_eq_true rfl, Nat.le_of_ble_eq_true rfl⟩ (fun H locs hW hS => ?_)
    have hW : WD D cI cS A oa r30.2 H := hW
    refine lv_iload_n hx hb dL_law_195 rfl (lv_at hl 1 rfl) ?_
    refine lv_icmp_ne (tgt := 213) hx hb dL_law_196 (by decide) (fun c31 => ?_) (fun c31 => ?_)
    · have hsp := itF hsp c31
      cases hsp
    have hsp := itT hsp c31
    refine lv_aload_n hx hb dL_law_199 rfl (lv_at hl 2 rfl) ?_
    refine lv_iconst (v := 5) hx hb dL_law_200 (by decide) ?_
    obtain ⟨r32, hcr32, hsp⟩ := clE hsp
    refine call_o (As := [.int 5]) (rest := []) (KO_count (l := l) (D := D) (cI := cI) (cZ := cZ) (cC := cC) (cS := cS) (oa := oa) hcr32) hKU hW hS hA ⟨hx, hb, hml, hown, hts⟩ (cwV 1 hts gL_law_X4_count rfl rfl rfl nd_X4_count ⟨Nat.le_of_ble_eq_true rfl, Nat.le_of_ble_eq_true rfl⟩) rfl hl.1 rfl (Nat.le_of_ble_eq_true rfl) dL_law_201 ⟨Nat.le_of_ble_eq_true rfl, Nat.le_of_ble_eq_true rfl⟩ (fun H locs hW hS => ?_)
    refine lv_iload hx hb dL_law_204 (lv_at hl 0 rfl) ?_
    refine lv_icmp_ne (tgt := 213) hx hb dL_law_206 (by decide) (fun c33 => ?_) (fun c33 => ?_)
    · have hsp := itF hsp c33
      cases hsp
    have hsp := itT hsp c33
    refine lv_iconst (v := 1) hx hb dL_law_209 (by decide) ?_
    refine lv_goto (tgt := 214) hx hb dL_law_210 (by decide) ?_
    refine lv_istore_n (lv' := [(2, .int 1), (4, .int r17), (3, .int r16), (1, .ref oa)]) hx hb dL_law_214 rfl hl (by decide) rfl (fun ls hl => ?_)
    refine lv_iload_n hx hb dL_law_215 rfl (lv_at hl 0 rfl) ?_
    refine lv_if_eq (tgt := 248) hx hb dL_law_216 (by decide) (fun hc => absurd hc (by decide)) (fun _ => ?_)
    refine lv_aload_n hx hb dL_law_219 rfl (lv_at hl 3 rfl) ?_
    obtain ⟨r34, hcr34, hsp⟩ := clE hsp
    refine call_o (As := []) (rest := []) (KO_undo (l := l) (D := D) (cI := cI) (cZ := cZ) (cC := cC) (cS := cS) (oa := oa) hcr34) hKU hW hS hA ⟨hx, hb, hml, hown, hts⟩ (cwV 0 hts gL_law_X4_undo rfl rfl rfl nd_X4_undo ⟨Nat.le_of_ble_eq_true rfl, Nat.le_of_ble_eq_true rfl⟩) rfl hl.1 rfl (Nat.le_of_ble_eq_true rfl) dL_law_220 ⟨Nat.le_of_ble_eq_true rfl, Nat.le_of_ble_eq_true rfl⟩ (fun H locs hW hS => ?_)
    have hW : WD D cI cS A oa r34.2 H := hW
    refine lv_if_lt (tgt := 248) hx hb dL_law_223 (by decide) (fun c35 => ?_) (fun c35 => ?_)
    · have hsp := itT hsp c35
      cases hsp
    have hsp := itF hsp c35
    refine lv_aload_n hx hb dL_law_226 rfl (lv_at hl 3 rfl) ?_
    refine lv_iconst (v := 0) hx hb dL_law_227 (by decide) ?_
    refine lv_iconst (v := 4) hx hb dL_law_228 (by decide) ?_
    obtain ⟨r36, hcr36, hsp⟩ := clE hsp
    refine call_o (As := [.int 0, .int 4]) (rest := []) (KO_pot (l := l) (D := D) (cI := cI) (cZ := cZ) (cC := cC) (cS := cS) (oa := oa) hcr36) hKU hW hS hA ⟨hx, hb, hml, hown, hts⟩ (cwV 2 hts gL_law_X4_pot rfl rfl rfl nd_X4_pot ⟨Nat.le_of_ble_eq_true rfl, Nat.le_of_ble_eq_true rfl⟩) rfl hl.1 rfl (Nat.le_of_ble_eq_true rfl) dL_law_229 ⟨Nat.le_of_ble_eq_true rfl, Nat.le_of_ble_eq_true rfl⟩ (fun H locs hW hS => ?_)
    refine lv_if_ne (tgt := 248) hx hb dL_law_232 (by decide) (fun c37 => ?_) (fun c37 => ?_)
    · have hsp := itF hsp c37
      cases hsp
    have hsp := itT hsp c37
    refine lv_aload_n hx hb dL_law_235 rfl (lv_at hl 3 rfl) ?_
    refine lv_iconst (v := 1) hx hb dL_law_236 (by decide) ?_
    refine lv_iconst (v := 4) hx hb dL_law_237 (by decide) ?_
    obtain ⟨r38, hcr38, hsp⟩ := clE hsp
    refine call_o (As := [.int 1, .int 4]) (rest := []) (KO_pot (l := l) (D := D) (cI := cI) (cZ := cZ) (cC := cC) (cS := cS) (oa := oa) hcr38) hKU hW hS hA ⟨hx, hb, hml, hown, hts⟩ (cwV 2 hts gL_law_X4_pot rfl rfl rfl nd_X4_pot ⟨Nat.le_of_ble_eq_true rfl, Nat.le_of_ble_eq_true rfl⟩) rfl hl.1 rfl (Nat.le_of_ble_eq_true rfl) dL_law_238 ⟨Nat.le_of_ble_eq_true rfl, Nat.le_of_ble_eq_true rfl⟩ (fun H locs hW hS => ?_)
    refine lv_if_ne (tgt := 248) hx hb dL_law_241 (by decide) (fun c39 => ?_) (fun c39 => ?_)
    · have hsp := itF hsp c39
      cases hsp
    have hsp := itT hsp c39
    refine lv_iconst (v := 1) hx hb dL_law_244 (by decide) ?_
    refine lv_goto (tgt := 249) hx hb dL_law_245 (by decide) ?_
    refine va_forget (fun q hq => hA2 _ (hS.2.2 q hq)) ?_
    refine W.widen (k := 600000) (n := 7302250) (Nat.le_of_ble_eq_true rfl) (Nat.le_of_ble_eq_true rfl) ?_
    exact lw_ret hx hb hr hlocks dL_law_249
  have hl := lv_sub hl (l' := [(0, .ref b0), (1, .ref oa), (2, .int 1), (3, .int 0)]) [2, 3, 1, 0] rfl
  refine lp_o (F := s_L_law_L1 L xs (s_L_law_X1)) (PH := fun (tv : Int32 × Ab) => WD D cI cS A oa (tv.2)) (L := fun (tv : Int32 × Ab) => [(0, .ref b0), (1, .ref oa), (2, .int 1), (3, .int tv.1)]) (nL := 5) (res := res) (A := A) (H0 := s.heap) (fun _ => rfl) ?_ 1000 (0, r3.2) _ _ hsp hW hS _ hl
  · intro n1 ih1 tv H locs hsp hW hS ls hl
    obtain ⟨x13, y14⟩ := tv
    have hsp : s_L_law_B1  L xs (s_L_law_X1) (s_L_law_L1 L xs (s_L_law_X1) n1) x13 y14 = some res := hsp
    unfold s_L_law_B1 at hsp
    have hW : WD D cI cS A oa y14 H := hW
    have hl : lv_has ls 5 [(0, .ref b0), (1, .ref oa), (2, .int 1), (3, .int x13)] := hl
    refine lv_iload_n hx hb dL_law_79 rfl (lv_at hl 3 rfl) ?_
    refine lv_bipush (v := 44) hx hb dL_law_80 (by decide) ?_
    refine lv_icmp_ge (tgt := 127) hx hb dL_law_82 (by decide) (fun c40 => ?_) (fun c40 => ?_)
    · have hsp := itT hsp c40
      exact hx1 y14 _ _ hsp hW hS _ (lv_sub hl [1, 2] rfl)
    have hsp := itF hsp c40
    refine lv_iload_n hx hb dL_law_85 rfl (lv_at hl 2 rfl) ?_
    refine lv_if_eq (tgt := 127) hx hb dL_law_86 (by decide) (fun hc => absurd hc (by decide)) (fun _ => ?_)
    refine lv_aload_n hx hb dL_law_89 rfl (lv_at hl 1 rfl) ?_
    refine lv_aload_n hx hb dL_law_90 rfl (lv_at hl 0 rfl) ?_
    refine lv_iload_n hx hb dL_law_91 rfl (lv_at hl 3 rfl) ?_
    obtain ⟨r41, hcr41, hsp⟩ := clE hsp
    refine call_w (va_runS (As := [.ref b0, .int x13]) (rest := [.ref oa]) ⟨hx, hb, hml, hown, hts⟩ (k_L_cell l H.size b0 L xs x13 r41 hcr41) (va_cwS 2 hts gL_law_L_cell rfl rfl rfl nd_L_cell.2 ⟨Nat.le_of_ble_eq_true rfl, Nat.le_of_ble_eq_true rfl⟩) (preX hX hbl hbA hS) rfl rfl hl.1 rfl (lv_room (Nat.le_of_ble_eq_true rfl)) dL_law_92 ⟨Nat.le_of_ble_eq_true rfl, Nat.le_of_ble_eq_true rfl⟩) hW hS hA (fun H locs hW hS => ?_)
    obtain ⟨r42, hcr42, hsp⟩ := clE hsp
    refine call_s (x' := r42.2) (res := r42.1) (As := [.int r41]) (rest := []) (Pz := r42.1 = 0 ∨ r42.1 = 1) (fun w sz hO => k_L_acts l D cI cZ cC cS sz w oa y14 hO r41 r42 hcr42) hKU hW hS hA ⟨hx, hb, hml, hown, hts⟩ (va_cwS 2 hts gL_law_L_acts rfl rfl rfl nd_L_acts.2 ⟨Nat.le_of_ble_eq_true rfl, Nat.le_of_ble_eq_true rfl⟩) rfl hl.1 rfl (Nat.le_of_ble_eq_true rfl) dL_law_95 ⟨Nat.le_of_ble_eq_true rfl, Nat.le_of_ble_eq_true rfl⟩ (fun H locs hW hS hzr42 => ?_)
    have hW : WD D cI cS A oa r42.2 H := hW
    refine lv_if_eq (tgt := 119) hx hb dL_law_98 (by decide) (fun c43 => ?_) (fun c43 => ?_)
    · have hsp := itT hsp c43
      cases hsp
    have hsp := itF hsp c43
    refine lv_iload_n hx hb dL_law_101 rfl (lv_at hl 3 rfl) ?_
    refine lv_bipush (v := 15) hx hb dL_law_102 (by decide) ?_
    obtain ⟨x44, ex44, hnx44, hsp⟩ := rmdE hsp
    refine lv_irem hx hb dL_law_104 hnx44 ?_
    refine r_top ex44 ?_
    refine lv_if_gt (tgt := 115) hx hb dL_law_105 (by decide) (fun c45 => ?_) (fun c45 => ?_)
    · have hsp := itT hsp c45
      refine lv_iconst (v := 1) hx hb dL_law_115 (by decide) ?_
      refine lv_goto (tgt := 120) hx hb dL_law_116 (by decide) ?_
      refine lv_istore_n (lv' := [(2, .int 1), (0, .ref b0), (1, .ref oa), (3, .int x13)]) hx hb dL_law_120 rfl hl (by decide) rfl (fun ls hl => ?_)
      obtain ⟨x46, ex46, hsp⟩ := nmE hsp
      refine lv_iinc (k := 3) (v := x46) (lv' := [(3, .int x46), (2, .int 1), (0, .ref b0), (1, .ref oa)]) hx hb dL_law_121 hl rfl (by rw [ex46]; rfl) (by decide) rfl (fun ls hl => ?_)
      refine lv_goto (tgt := 79) hx hb dL_law_124 (by decide) ?_
      exact ih1 (x46, r42.2) _ _ hsp hW hS _ (lv_sub hl [2, 3, 1, 0] rfl)
    have hsp := itF hsp c45
    refine lv_aload_n hx hb dL_law_108 rfl (lv_at hl 1 rfl) ?_
    obtain ⟨r47, hcr47, hsp⟩ := clE hsp
    refine call_s (x' := r42.2) (res := r47) (As := []) (rest := []) (Pz := r47 = 0 ∨ r47 = 1) (fun w sz hO => k_L_areDrops l D cI cZ cC cS sz w oa r42.2 hO  r47 hcr47) hKU hW hS hA ⟨hx, hb, hml, hown, hts⟩ (va_cwS 1 hts gL_law_L_areDrops rfl rfl rfl nd_L_areDrops.2 ⟨Nat.le_of_ble_eq_true rfl, Nat.le_of_ble_eq_true rfl⟩) rfl hl.1 rfl (Nat.le_of_ble_eq_true rfl) dL_law_109 ⟨Nat.le_of_ble_eq_true rfl, Nat.le_of_ble_eq_true rfl⟩ (fun H locs hW hS hzr47 => ?_)
    have hW : WD D cI cS A oa r42.2 H := hW
    refine lv_if_eq (tgt := 119) hx hb dL_law_112 (by decide) (fun c48 => ?_) (fun c48 => ?_)
    · have hsp := itT hsp c48
      cases hsp
    have hsp := itF hsp c48
    refine lv_iconst (v := 1) hx hb dL_law_115 (by decide) ?_
    refine lv_goto (tgt := 120) hx hb dL_law_116 (by decide) ?_
    refine lv_istore_n (lv' := [(2, .int 1), (0, .ref b0), (1, .ref oa), (3, .int x13)]) hx hb dL_law_120 rfl hl (by decide) rfl (fun ls hl => ?_)
    obtain ⟨x49, ex49, hsp⟩ := nmE hsp
    refine lv_iinc (k := 3) (v := x49) (lv' := [(3, .int x49), (2, .int 1), (0, .ref b0), (1, .ref oa)]) hx hb dL_law_121 hl rfl (by rw [ex49]; rfl) (by decide) rfl (fun ls hl => ?_)
    refine lv_goto (tgt := 79) hx hb dL_law_124 (by decide) ?_
    exact ih1 (x49, r42.2) _ _ hsp hW hS _ (lv_sub hl [2, 3, 1, 0] rfl)
