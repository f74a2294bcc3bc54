def s_X4_isWithin (u0 : Int32) (u1 : Int32) : Option (Int32) := if u0 < 0 then (some 0) else (if u1 ≤ u0 then (some 0) else (some 1))
theorem nd_X4_isWithin : yX4_isWithin.cls = RX4 ∧ yX4_isWithin.cls ≠ "java/lang/invoke/MethodHandle" ∧ yX4_isWithin.cls ≠ "java/lang/invoke/VarHandle" ∧ (parseMethodDescriptor yX4_isWithin.desc).map (fun d => d.parameters.length) = some 2 := by decide +kernel
set_option maxHeartbeats 8000000 in
set_option maxRecDepth 100000 in
theorem k_X4_isWithin (l : Launch) (D : va_G) (cI cZ cC cS : ClassId) (sz : Nat) (u0 : Int32) (u1 : Int32) (res : Int32) (hsp : s_X4_isWithin u0 u1 = some res) : Met l yX4_isWithin wsX4_isWithin ({ frames := 0, cells := 0, slots := 0, locals := 0 }) (va_Pc [.int u0, .int u1] (PB D cI cZ cC cS [] sz)) (va_Qi (fun r (_ : Unit) => r = res ∧ (res = 0 ∨ res = 1)) (fun _ t => va_P D vwCl [] t.heap) (va_A [] sz)) 0 0 (va_A [] sz) := by
  refine Met.ofW (cc := cX4_isWithin) (maxL := 2) (ret := (some .boolean)) (by decide) rfl ?_
  intro p e s m args below meth c s₁ B hml hv
  obtain ⟨rfl, hsz, hP, hD0, hKU⟩ := hv
  have hx := B.exec
  have hb := B.bytes
  have hr := B.returns
  have hts := atoms_spec (ws := wsX4_isWithin) B.pre
  have hown : s.vm.findClass RX4 = some m.cls := findClass_of_methodNamed B.named
  have hlocks := B.notSynchronized
  have hK := hKU.1
  subst hsz
  have hD := hD0.self (sz := s.heap.size)
  generalize hAe : va_A [] s.heap.size = A at hD ⊢
  have hA : ∀ q : Nat, s.heap.size ≤ q → A q := fun q h => by rw [← hAe]; exact Or.inr h
  have hP : va_P D vwCl [] s.heap := hP
  generalize hHe : s.heap = H at hP ⊢
  have hS : va_S A s.heap H [] := by rw [hHe]; exact va_S.rf
  have hl := lv_entry ([.int u0, .int u1]) (n := 2) (Nat.le_of_ble_eq_true rfl)
  rw [lg_entry_eq]
  generalize (lg_sl ([.int u0, .int u1]) ++ List.replicate (2 - (lg_sl ([.int u0, .int u1])).length) Slot.unset).toArray = ls at hl ⊢
  have hl : lv_has ls 2 [(0, .int u0), (1, .int u1)] := hl
  unfold s_X4_isWithin at hsp
  refine lv_iload_n hx hb dX4_isWithin_0 rfl (lv_at hl 0 rfl) ?_
  refine lv_if_lt (tgt := 13) hx hb dX4_isWithin_1 (by decide) (fun c1 => ?_) (fun c1 => ?_)
  · have hsp := itT hsp c1
    refine lv_iconst (v := 0) hx hb dX4_isWithin_13 (by decide) ?_
    have hres := Option.some.inj hsp
    subst hres
    exact W.zret (v := 0) hx hb hr (zE (by decide)) (fun t ht hW => ⟨⟨0, (), rfl, ⟨rfl, (by decide)⟩, P_at ht hP⟩, hS.F ht⟩) hS.2.2 dX4_isWithin_14
  have hsp := itF hsp c1
  refine lv_iload_n hx hb dX4_isWithin_4 rfl (lv_at hl 0 rfl) ?_
  refine lv_iload_n hx hb dX4_isWithin_5 rfl (lv_at hl 1 rfl) ?_
  refine lv_icmp_ge (tgt := 13) hx hb dX4_isWithin_6 (by decide) (fun c2 => ?_) (fun c2 => ?_)
  · have hsp := itT hsp c2
    refine lv_iconst (v := 0) hx hb dX4_isWithin_13 (by decide) ?_
    have hres := Option.some.inj hsp
    subst hres
    exact W.zret (v := 0) hx hb hr (zE (by decide)) (fun t ht hW => ⟨⟨0, (), rfl, ⟨rfl, (by decide)⟩, P_at ht hP⟩, hS.F ht⟩) hS.2.2 dX4_isWithin_14
  have hsp := itF hsp c2
  refine lv_iconst (v := 1) hx hb dX4_isWithin_9 (by decide) ?_
  refine lv_goto (tgt := 14) hx hb dX4_isWithin_10 (by decide) ?_
  have hres := Option.some.inj hsp
  subst hres
  exact W.zret (v := 1) hx hb hr (zE (by decide)) (fun t ht hW => ⟨⟨1, (), rfl, ⟨rfl, (by decide)⟩, P_at ht hP⟩, hS.F ht⟩) hS.2.2 dX4_isWithin_14
def s_X4_at (n0 : Nat) (f0 : Nat → Int32) (u1 : Int32) : Option (Int32) := if u1 < 0 then (some 0) else (if u1 < (Int32.ofNat n0) then (ld n0 f0 u1 fun x3 => some x3) else (some 0))
theorem nd_X4_at : yX4_at.cls = RX4 ∧ yX4_at.cls ≠ "java/lang/invoke/MethodHandle" ∧ yX4_at.cls ≠ "java/lang/invoke/VarHandle" ∧ (parseMethodDescriptor yX4_at.desc).map (fun d => d.parameters.length) = some 2 := by decide +kernel
set_option maxHeartbeats 8000000 in
set_option maxRecDepth 100000 in
theorem k_X4_at (l : Launch) (D : va_G) (cI cZ cC cS : ClassId) (sz : Nat) (a0 : Nat) (n0 : Nat) (f0 : Nat → Int32) (u1 : Int32) (res : Int32) (hsp : s_X4_at n0 f0 u1 = some res) : Met l yX4_at wsX4_at ({ frames := 0, cells := 0, slots := 0, locals := 0 }) (va_Pc [.ref a0, .int u1] (PB D cI cZ cC cS [(a0, .inl (cI, n0, .inl f0))] sz)) (va_Qi (fun r (_ : Unit) => r = res) (fun _ t => va_P D vwCl [(a0, .inl (cI, n0, .inl f0))] t.heap) (va_A [(a0, .inl (cI, n0, .inl f0))] sz)) 0 0 (va_A [(a0, .inl (cI, n0, .inl f0))] sz) := by
  refine Met.ofW (cc := cX4_at) (maxL := 2) (ret := (some .int)) (by decide) rfl ?_
  intro p e s m args below meth c s₁ B hml hv
  obtain ⟨rfl, hsz, hP, hD0, hKU⟩ := hv
  have hx := B.exec
  have hb := B.bytes
  have hr := B.returns
  have hts := atoms_spec (ws := wsX4_at) B.pre
  have hown : s.vm.findClass RX4 = some m.cls := findClass_of_methodNamed B.named
  have hlocks := B.notSynchronized
  have hK := hKU.1
  subst hsz
  have hD := hD0.self (sz := s.heap.size)
  generalize hAe : va_A [(a0, .inl (cI, n0, .inl f0))] s.heap.size = A at hD ⊢
  have hA : ∀ q : Nat, s.heap.size ≤ q → A q := fun q h => by rw [← hAe]; exact Or.inr h
  have hP : va_P D vwCl [(a0, .inl (cI, n0, .inl f0))] s.heap := hP
  generalize hHe : s.heap = H at hP ⊢
  have hS : va_S A s.heap H [] := by rw [hHe]; exact va_S.rf
  have hl := lv_entry ([.ref a0, .int u1]) (n := 2) (Nat.le_of_ble_eq_true rfl)
  rw [lg_entry_eq]
  generalize (lg_sl ([.ref a0, .int u1]) ++ List.replicate (2 - (lg_sl ([.ref a0, .int u1])).length) Slot.unset).toArray = ls at hl ⊢
  have hl : lv_has ls 2 [(0, .ref a0), (1, .int u1)] := hl
  unfold s_X4_at at hsp
  refine lv_aload_n hx hb dX4_at_0 rfl (lv_at hl 0 rfl) ?_
  refine lv_ifnull hx hb dX4_at_1 ?_
  refine lv_iload_n hx hb dX4_at_4 rfl (lv_at hl 1 rfl) ?_
  refine lv_if_lt (tgt := 14) hx hb dX4_at_5 (by decide) (fun c1 => ?_) (fun c1 => ?_)
  · have hsp := itT hsp c1
    refine lv_iconst (v := 0) hx hb dX4_at_14 (by decide) ?_
    have hres := Option.some.inj hsp
    subst hres
    exact W.iret (v := 0) hx hb hr (fun t ht hW => ⟨⟨0, (), rfl, rfl, P_at ht hP⟩, hS.F ht⟩) hS.2.2 dX4_at_15
  have hsp := itF hsp c1
  refine lv_iload_n hx hb dX4_at_8 rfl (lv_at hl 1 rfl) ?_
  refine lv_aload_n hx hb dX4_at_9 rfl (lv_at hl 0 rfl) ?_
  refine va_alen (v := Int32.ofNat n0) hx hb hK hP 0 0 rfl rfl rfl dX4_at_10 ?_
  refine lv_icmp_lt (tgt := 16) hx hb dX4_at_11 (by decide) (fun c2 => ?_) (fun c2 => ?_)
  · have hsp := itT hsp c2
    refine lv_aload_n hx hb dX4_at_16 rfl (lv_at hl 0 rfl) ?_
    refine lv_iload_n hx hb dX4_at_17 rfl (lv_at hl 1 rfl) ?_
    obtain ⟨x3, ex3, hnx3, hsp⟩ := ldE hsp
    refine r_iald hx hb hK hP 0 0 rfl rfl ex3 hnx3 dX4_at_18 ?_
    have hres := Option.some.inj hsp
    subst hres
    exact W.iret (v := x3) hx hb hr (fun t ht hW => ⟨⟨x3, (), rfl, rfl, P_at ht hP⟩, hS.F ht⟩) hS.2.2 dX4_at_19
  have hsp := itF hsp c2
  refine lv_iconst (v := 0) hx hb dX4_at_14 (by decide) ?_
  have hres := Option.some.inj hsp
  subst hres
  exact W.iret (v := 0) hx hb hr (fun t ht hW => ⟨⟨0, (), rfl, rfl, P_at ht hP⟩, hS.F ht⟩) hS.2.2 dX4_at_15
def s_X4_write (n0 : Nat) (f0 : Nat → Int32) (u1 : Int32) (u2 : Int32) : Option ((Nat → Int32)) := if u1 < 0 then (some f0) else (if (Int32.ofNat n0) ≤ u1 then (some f0) else (sto n0 f0 u1 u2 fun y3 => some y3))
theorem nd_X4_write : yX4_write.cls = RX4 ∧ yX4_write.cls ≠ "java/lang/invoke/MethodHandle" ∧ yX4_write.cls ≠ "java/lang/invoke/VarHandle" ∧ (parseMethodDescriptor yX4_write.desc).map (fun d => d.parameters.length) = some 3 := by decide +kernel
set_option maxHeartbeats 8000000 in
set_option maxRecDepth 100000 in
theorem k_X4_write (l : Launch) (D : va_G) (cI cZ cC cS : ClassId) (sz : Nat) (a0 : Nat) (n0 : Nat) (f0 : Nat → Int32) (u1 : Int32) (u2 : Int32) (res : (Nat → Int32)) (hsp : s_X4_write n0 f0 u1 u2 = some res) : Met l yX4_write wsX4_write ({ frames := 0, cells := 0, slots := 0, locals := 0 }) (va_Pc [.ref a0, .int u1, .int u2] (PB D cI cZ cC cS [(a0, .inl (cI, n0, .inl f0))] sz)) (va_Qv (fun (_ : Unit) => True) (fun _ t => va_P D vwCl [(a0, .inl (cI, n0, .inl res))] t.heap) (va_A [(a0, .inl (cI, n0, .inl f0))] sz)) 0 0 (va_A [(a0, .inl (cI, n0, .inl f0))] sz) := by
  refine Met.ofW (cc := cX4_write) (maxL := 3) (ret := none) (by decide) rfl ?_
  intro p e s m args below meth c s₁ B hml hv
  obtain ⟨rfl, hsz, hP, hD0, hKU⟩ := hv
  have hx := B.exec
  have hb := B.bytes
  have hr := B.returns
  have hts := atoms_spec (ws := wsX4_write) B.pre
  have hown : s.vm.findClass RX4 = some m.cls := findClass_of_methodNamed B.named
  have hlocks := B.notSynchronized
  have hK := hKU.1
  subst hsz
  have hD := hD0.self (sz := s.heap.size)
  generalize hAe : va_A [(a0, .inl (cI, n0, .inl f0))] s.heap.size = A at hD ⊢
  have hA : ∀ q : Nat, s.heap.size ≤ q → A q := fun q h => by rw [← hAe]; exact Or.inr h
  have hP : va_P D vwCl [(a0, .inl (cI, n0, .inl f0))] s.heap := hP
  generalize hHe : s.heap = H at hP ⊢
  have hS : va_S A s.heap H [] := by rw [hHe]; exact va_S.rf
  have hl := lv_entry ([.ref a0, .int u1, .int u2]) (n := 3) (Nat.le_of_ble_eq_true rfl)
  rw [lg_entry_eq]
  generalize (lg_sl ([.ref a0, .int u1, .int u2]) ++ List.replicate (3 - (lg_sl ([.ref a0, .int u1, .int u2])).length) Slot.unset).toArray = ls at hl ⊢
  have hl : lv_has ls 3 [(0, .ref a0), (1, .int u1), (2, .int u2)] := hl
  unfold s_X4_write at hsp
  refine lv_aload_n hx hb dX4_write_0 rfl (lv_at hl 0 rfl) ?_
  refine lv_ifnull hx hb dX4_write_1 ?_
  refine lv_iload_n hx hb dX4_write_4 rfl (lv_at hl 1 rfl) ?_
  refine lv_if_lt (tgt := 18) hx hb dX4_write_5 (by decide) (fun c1 => ?_) (fun c1 => ?_)
  · have hsp := itT hsp c1
    have hres := Option.some.inj hsp
    subst hres
    exact W.vret hx hb hr (fun t ht hW => ⟨⟨(), rfl, trivial, P_at ht hP⟩, hS.F ht⟩) hS.2.2 dX4_write_18
  have hsp := itF hsp c1
  refine lv_iload_n hx hb dX4_write_8 rfl (lv_at hl 1 rfl) ?_
  refine lv_aload_n hx hb dX4_write_9 rfl (lv_at hl 0 rfl) ?_
  refine va_alen (v := Int32.ofNat n0) hx hb hK hP 0 0 rfl rfl rfl dX4_write_10 ?_
  refine lv_icmp_ge (tgt := 18) hx hb dX4_write_11 (by decide) (fun c2 => ?_) (fun c2 => ?_)
  · have hsp := itT hsp c2
    have hres := Option.some.inj hsp
    subst hres
    exact W.vret hx hb hr (fun t ht hW => ⟨⟨(), rfl, trivial, P_at ht hP⟩, hS.F ht⟩) hS.2.2 dX4_write_18
  have hsp := itF hsp c2
  refine lv_aload_n hx hb dX4_write_14 rfl (lv_at hl 0 rfl) ?_
  refine lv_iload_n hx hb dX4_write_15 rfl (lv_at hl 1 rfl) ?_
  refine lv_iload_n hx hb dX4_write_16 rfl (lv_at hl 2 rfl) ?_
  obtain ⟨y3, ey3, hny3, hsp⟩ := stoE hsp
  refine r_iast (ws' := [(a0, .inl (cI, n0, .inl y3))]) hx hb hK hP hD hS 0 0 rfl rfl ey3 hny3 rfl dX4_write_17 (fun H locs hP hD hS => ?_)
  have hres := Option.some.inj hsp
  subst hres
  exact W.vret hx hb hr (fun t ht hW => ⟨⟨(), rfl, trivial, P_at ht hP⟩, hS.F ht⟩) hS.2.2 dX4_write_18
def s_X4_add (n0 : Nat) (f0 : Nat → Int32) (u1 : Int32) (u2 : Int32) : Option ((Nat → Int32)) := cl (s_X4_at n0 f0 u1) fun r1 => cl (s_X4_write n0 f0 u1 (r1 + u2)) fun r2 => some r2
theorem nd_X4_add : yX4_add.cls = RX4 ∧ yX4_add.cls ≠ "java/lang/invoke/MethodHandle" ∧ yX4_add.cls ≠ "java/lang/invoke/VarHandle" ∧ (parseMethodDescriptor yX4_add.desc).map (fun d => d.parameters.length) = some 3 := by decide +kernel
set_option maxHeartbeats 8000000 in
set_option maxRecDepth 100000 in
theorem k_X4_add (l : Launch) (D : va_G) (cI cZ cC cS : ClassId) (sz : Nat) (a0 : Nat) (n0 : Nat) (f0 : Nat → Int32) (u1 : Int32) (u2 : Int32) (res : (Nat → Int32)) (hsp : s_X4_add n0 f0 u1 u2 = some res) : Met l yX4_add wsX4_add ({ frames := 1, cells := 0, slots := 0, locals := 22 }) (va_Pc [.ref a0, .int u1, .int u2] (PB D cI cZ cC cS [(a0, .inl (cI, n0, .inl f0))] sz)) (va_Qv (fun (_ : Unit) => True) (fun _ t => va_P D vwCl [(a0, .inl (cI, n0, .inl res))] t.heap) (va_A [(a0, .inl (cI, n0, .inl f0))] sz)) 0 0 (va_A [(a0, .inl (cI, n0, .inl f0))] sz) := by
  refine Met.ofW (cc := cX4_add) (maxL := 3) (ret := none) (by decide) rfl ?_
  intro p e s m args below meth c s₁ B hml hv
  obtain ⟨rfl, hsz, hP, hD0, hKU⟩ := hv
  have hx := B.exec
  have hb := B.bytes
  have hr := B.returns
  have hts := atoms_spec (ws := wsX4_add) B.pre
  have hown : s.vm.findClass RX4 = some m.cls := findClass_of_methodNamed B.named
  have hlocks := B.notSynchronized
  have hK := hKU.1
  subst hsz
  have hD := hD0.self (sz := s.heap.size)
  generalize hAe : va_A [(a0, .inl (cI, n0, .inl f0))] s.heap.size = A at hD ⊢
  have hA : ∀ q : Nat, s.heap.size ≤ q → A q := fun q h => by rw [← hAe]; exact Or.inr h
  have hP : va_P D vwCl [(a0, .inl (cI, n0, .inl f0))] s.heap := hP
  generalize hHe : s.heap = H at hP ⊢
  have hS : va_S A s.heap H [] := by rw [hHe]; exact va_S.rf
  have hl := lv_entry ([.ref a0, .int u1, .int u2]) (n := 3) (Nat.le_of_ble_eq_true rfl)
  rw [lg_entry_eq]
  generalize (lg_sl ([.ref a0, .int u1, .int u2]) ++ List.replicate (3 - (lg_sl ([.ref a0, .int u1, .int u2])).length) Slot.unset).toArray = ls at hl ⊢
  have hl : lv_has ls 3 [(0, .ref a0), (1, .int u1), (2, .int u2)] := hl
  unfold s_X4_add at hsp
  refine lv_aload_n hx hb dX4_add_0 rfl (lv_at hl 0 rfl) ?_
  refine lv_iload_n hx hb dX4_add_1 rfl (lv_at hl 1 rfl) ?_
  refine lv_aload_n hx hb dX4_add_2 rfl (lv_at hl 0 rfl) ?_
  refine lv_iload_n hx hb dX4_add_3 rfl (lv_at hl 1 rfl) ?_
  obtain ⟨r1, hcr1, hsp⟩ := clE hsp
  refine call_i (w1 := [(a0, .inl (cI, n0, .inl f0))]) (ws' := [(a0, .inl (cI, n0, .inl f0))]) (va_runS (As := [.ref a0, .int u1]) (rest := [.int u1, .ref a0]) ⟨hx, hb, hml, hown, hts⟩ (k_X4_at l D cI cZ cC cS H.size a0 n0 f0 u1 r1 hcr1) (va_cwS 2 hts gX4_add_X4_at rfl rfl rfl nd_X4_at.2 ⟨Nat.le_of_ble_eq_true rfl, Nat.le_of_ble_eq_true rfl⟩) (PB.preS hKU hP hD [0] rfl rfl) rfl rfl hl.1 rfl (lv_room (Nat.le_of_ble_eq_true rfl)) dX4_add_4 ⟨Nat.zero_le _, Nat.zero_le _⟩) hS hP hD hA [0] rfl rfl rfl rfl (fun H locs hP hD hS => ?_)
  refine lv_iload_n hx hb dX4_add_7 rfl (lv_at hl 2 rfl) ?_
  refine lv_iadd hx hb dX4_add_8 ?_
  obtain ⟨r2, hcr2, hsp⟩ := clE hsp
  refine call_v (w1 := [(a0, .inl (cI, n0, .inl r2))]) (ws' := [(a0, .inl (cI, n0, .inl r2))]) (va_runS (As := [.ref a0, .int u1, .int (r1 + u2)]) (rest := []) ⟨hx, hb, hml, hown, hts⟩ (k_X4_write l D cI cZ cC cS H.size a0 n0 f0 u1 (r1 + u2) r2 hcr2) (va_cwS 3 hts gX4_add_X4_write rfl rfl rfl nd_X4_write.2 ⟨Nat.le_of_ble_eq_true rfl, Nat.le_of_ble_eq_true rfl⟩) (PB.preS hKU hP hD [0] rfl rfl) rfl rfl hl.1 rfl (lv_room (Nat.le_of_ble_eq_true rfl)) dX4_add_9 ⟨Nat.zero_le _, Nat.zero_le _⟩) hS hP hD hA [0] rfl rfl rfl rfl (fun H locs hP hD hS => ?_)
  have hres := Option.some.inj hsp
  subst hres
  exact W.vret hx hb hr (fun t ht hW => ⟨⟨(), rfl, trivial, P_at ht hP⟩, hS.F ht⟩) hS.2.2 dX4_add_12
def s_X2_allDrops (f2 : Nat → Int32) (u1 : Int32) : Option (Int32) := nm (u1 * 4) fun x1 => if x1 < 0 then (some 0) else (if x1 ≤ 32 then (ld 36 f2 x1 fun x4 => ld 36 f2 (x1 + 1) fun x5 => ld 36 f2 (x1 + 2) fun x6 => ld 36 f2 (x1 + 3) fun x7 => some (((x4 + x5) + x6) + x7)) else (some 0))
theorem nd_X2_allDrops : yX2_allDrops.cls = RX2 ∧ yX2_allDrops.cls ≠ "java/lang/invoke/MethodHandle" ∧ yX2_allDrops.cls ≠ "java/lang/invoke/VarHandle" ∧ (parseMethodDescriptor yX2_allDrops.desc).map (fun d => d.parameters.length) = some 1 := by decide +kernel
set_option maxHeartbeats 8000000 in
set_option maxRecDepth 100000 in
theorem k_X2_allDrops (l : Launch) (D : va_G) (cI cZ cC cS : ClassId) (sz : Nat) (a0 a2 : Nat) (w0_0 : Value) (w0_2 : Value) (w0_3 : Value) (w0_4 : Value) (w0_5 : Value) (w0_6 : Value) (w0_7 : Value) (w0_8 : Value) (w0_9 : Value) (w0_10 : Value) (w0_11 : Value) (f2 : Nat → Int32) (u1 : Int32) (res : Int32) (hsp : s_X2_allDrops f2 u1 = some res) : Met l yX2_allDrops wsX2_allDrops ({ frames := 0, cells := 0, slots := 0, locals := 0 }) (va_Pc [.ref a0, .int u1] (PB D cI cZ cC cS [(a0, .inr (2, [w0_0, .ref a2, w0_2, w0_3, w0_4, w0_5, w0_6, w0_7, w0_8, w0_9, w0_10, w0_11])), (a2, .inl (cI, 36, .inl f2))] sz)) (va_Qi (fun r (_ : Unit) => r = res) (fun _ t => va_P D vwCl [(a0, .inr (2, [w0_0, .ref a2, w0_2, w0_3, w0_4, w0_5, w0_6, w0_7, w0_8, w0_9, w0_10, w0_11])), (a2, .inl (cI, 36, .inl f2))] t.heap) (va_A [(a0, .inr (2, [w0_0, .ref a2, w0_2, w0_3, w0_4, w0_5, w0_6, w0_7, w0_8, w0_9, w0_10, w0_11])), (a2, .inl (cI, 36, .inl f2))] sz)) 0 0 (va_A [(a0, .inr (2, [w0_0, .ref a2, w0_2, w0_3, w0_4, w0_5, w0_6, w0_7, w0_8, w0_9, w0_10, w0_11])), (a2, .inl (cI, 36, .inl f2))] sz) := by
  refine Met.ofW (cc := cX2_allDrops) (maxL := 3) (ret := (some .int)) (by decide) rfl ?_
  intro p e s m args below meth c s₁ B hml hv
  obtain ⟨rfl, hsz, hP, hD0, hKU⟩ := hv
  have hx := B.exec
  have hb := B.bytes
  have hr := B.returns
  have hts := atoms_spec (ws := wsX2_allDrops) B.pre
  have hown : s.vm.findClass RX2 = some m.cls := findClass_of_methodNamed B.named
  have hlocks := B.notSynchronized
  have hK := hKU.1
  have hf_19 := hts (.fieldLink RX2 19 "ThinnedPots$Studio" "drops" "[I") (by decide +kernel)
  have hi_X2 : ∀ w ∈ u_ws RX2 TX2 12, w ∈ wsX2_allDrops := by decide +kernel
  subst hsz
  have hD := hD0.self (sz := s.heap.size)
  generalize hAe : va_A [(a0, .inr (2, [w0_0, .ref a2, w0_2, w0_3, w0_4, w0_5, w0_6, w0_7, w0_8, w0_9, w0_10, w0_11])), (a2, .inl (cI, 36, .inl f2))] s.heap.size = A at hD ⊢
  have hA : ∀ q : Nat, s.heap.size ≤ q → A q := fun q h => by rw [← hAe]; exact Or.inr h
  have hP : va_P D vwCl [(a0, .inr (2, [w0_0, .ref a2, w0_2, w0_3, w0_4, w0_5, w0_6, w0_7, w0_8, w0_9, w0_10, w0_11])), (a2, .inl (cI, 36, .inl f2))] s.heap := hP
  generalize hHe : s.heap = H at hP ⊢
  have hS : va_S A s.heap H [] := by rw [hHe]; exact va_S.rf
  have hl := lv_entry ([.ref a0, .int u1]) (n := 3) (Nat.le_of_ble_eq_true rfl)
  rw [lg_entry_eq]
  generalize (lg_sl ([.ref a0, .int u1]) ++ List.replicate (3 - (lg_sl ([.ref a0, .int u1])).length) Slot.unset).toArray = ls at hl ⊢
  have hl : lv_has ls 3 [(0, .ref a0), (1, .int u1)] := hl
  unfold s_X2_allDrops at hsp
  refine lv_iload_n hx hb dX2_allDrops_0 rfl (lv_at hl 1 rfl) ?_
  refine lv_iconst (v := 4) hx hb dX2_allDrops_1 (by decide) ?_
  refine lv_imul hx hb dX2_allDrops_2 ?_
  obtain ⟨x1, ex1, hsp⟩ := nmE hsp
  refine r_top ex1 ?_
  refine lv_istore_n (lv' := [(2, .int x1), (0, .ref a0), (1, .int u1)]) hx hb dX2_allDrops_3 rfl hl (by decide) rfl (fun ls hl => ?_)
  refine lv_iload_n hx hb dX2_allDrops_4 rfl (lv_at hl 0 rfl) ?_
  refine lv_if_lt (tgt := 19) hx hb dX2_allDrops_5 (by decide) (fun c2 => ?_) (fun c2 => ?_)
  · have hsp := itT hsp c2
    refine lv_iconst (v := 0) hx hb dX2_allDrops_19 (by decide) ?_
    have hres := Option.some.inj hsp
    subst hres
    exact W.iret (v := 0) hx hb hr (fun t ht hW => ⟨⟨0, (), rfl, rfl, P_at ht hP⟩, hS.F ht⟩) hS.2.2 dX2_allDrops_20
  have hsp := itF hsp c2
  refine lv_iload_n hx hb dX2_allDrops_8 rfl (lv_at hl 0 rfl) ?_
  refine lv_aload_n hx hb dX2_allDrops_9 rfl (lv_at hl 1 rfl) ?_
  refine va_get (D := D) (ci := 2) (v := .ref a2) (C := RX2) (T := TX2) (N := 12) hx hb hts hi_X2 hown hK hP 0 rfl rfl 1 (by decide) hf_19 (fun _ h9 => h9) rfl dX2_allDrops_10 ?_
  refine va_alen (v := 36) hx hb hK hP 1 0 rfl rfl (by decide) dX2_allDrops_13 ?_
  refine lv_iconst (v := 4) hx hb dX2_allDrops_14 (by decide) ?_
  refine lv_isub hx hb dX2_allDrops_15 ?_
  refine r_top (v := 32) (by decide) ?_
  refine lv_icmp_le (tgt := 21) hx hb dX2_allDrops_16 (by decide) (fun c3 => ?_) (fun c3 => ?_)
  · have hsp := itT hsp c3
    refine lv_aload_n hx hb dX2_allDrops_21 rfl (lv_at hl 1 rfl) ?_
    refine va_get (D := D) (ci := 2) (v := .ref a2) (C := RX2) (T := TX2) (N := 12) hx hb hts hi_X2 hown hK hP 0 rfl rfl 1 (by decide) hf_19 (fun _ h9 => h9) rfl dX2_allDrops_22 ?_
    refine lv_iload_n hx hb dX2_allDrops_25 rfl (lv_at hl 0 rfl) ?_
    obtain ⟨x4, ex4, hnx4, hsp⟩ := ldE hsp
    refine r_iald hx hb hK hP 1 0 rfl rfl ex4 hnx4 dX2_allDrops_26 ?_
    refine lv_aload_n hx hb dX2_allDrops_27 rfl (lv_at hl 1 rfl) ?_
    refine va_get (D := D) (ci := 2) (v := .ref a2) (C := RX2) (T := TX2) (N := 12) hx hb hts hi_X2 hown hK hP 0 rfl rfl 1 (by decide) hf_19 (fun _ h9 => h9) rfl dX2_allDrops_28 ?_
    refine lv_iload_n hx hb dX2_allDrops_31 rfl (lv_at hl 0 rfl) ?_
    refine lv_iconst (v := 1) hx hb dX2_allDrops_32 (by decide) ?_
    refine lv_iadd hx hb dX2_allDrops_33 ?_
    obtain ⟨x5, ex5, hnx5, hsp⟩ := ldE hsp
    refine r_iald hx hb hK hP 1 0 rfl rfl ex5 hnx5 dX2_allDrops_34 ?_
    refine lv_iadd hx hb dX2_allDrops_35 ?_
    refine lv_aload_n hx hb dX2_allDrops_36 rfl (lv_at hl 1 rfl) ?_
    refine va_get (D := D) (ci := 2) (v := .ref a2) (C := RX2) (T := TX2) (N := 12) hx hb hts hi_X2 hown hK hP 0 rfl rfl 1 (by decide) hf_19 (fun _ h9 => h9) rfl dX2_allDrops_37 ?_
    refine lv_iload_n hx hb dX2_allDrops_40 rfl (lv_at hl 0 rfl) ?_
    refine lv_iconst (v := 2) hx hb dX2_allDrops_41 (by decide) ?_
    refine lv_iadd hx hb dX2_allDrops_42 ?_
    obtain ⟨x6, ex6, hnx6, hsp⟩ := ldE hsp
    refine r_iald hx hb hK hP 1 0 rfl rfl ex6 hnx6 dX2_allDrops_43 ?_
    refine lv_iadd hx hb dX2_allDrops_44 ?_
    refine lv_aload_n hx hb dX2_allDrops_45 rfl (lv_at hl 1 rfl) ?_
    refine va_get (D := D) (ci := 2) (v := .ref a2) (C := RX2) (T := TX2) (N := 12) hx hb hts hi_X2 hown hK hP 0 rfl rfl 1 (by decide) hf_19 (fun _ h9 => h9) rfl dX2_allDrops_46 ?_
    refine lv_iload_n hx hb dX2_allDrops_49 rfl (lv_at hl 0 rfl) ?_
    refine lv_iconst (v := 3) hx hb dX2_allDrops_50 (by decide) ?_
    refine lv_iadd hx hb dX2_allDrops_51 ?_
    obtain ⟨x7, ex7, hnx7, hsp⟩ := ldE hsp
    refine r_iald hx hb hK hP 1 0 rfl rfl ex7 hnx7 dX2_allDrops_52 ?_
    refine lv_iadd hx hb dX2_allDrops_53 ?_
    have hres := Option.some.inj hsp
    subst hres
    exact W.iret (v := ((x4 + x5) + x6) + x7) hx hb hr (fun t ht hW => ⟨⟨((x4 + x5) + x6) + x7, (), rfl, rfl, P_at ht hP⟩, hS.F ht⟩) hS.2.2 dX2_allDrops_54
  have hsp := itF hsp c3
  refine lv_iconst (v := 0) hx hb dX2_allDrops_19 (by decide) ?_
  have hres := Option.some.inj hsp
  subst hres
  exact W.iret (v := 0) hx hb hr (fun t ht hW => ⟨⟨0, (), rfl, rfl, P_at ht hP⟩, hS.F ht⟩) hS.2.2 dX2_allDrops_20
def s_X2_sink_X1  (g0_8 : Int32) (r1 : Int32) (t1 : (Nat → Int32)) : Option (Int32 × Int32 × (Nat → Int32)) := nm (g0_8 + r1) fun x5 => some (r1, x5, t1)
def s_X2_sink_B1  (u1 : Int32) (kk1 : (Nat → Int32) → Option (Int32 × Int32 × (Nat → Int32))) (bk1 : Int32 × (Nat → Int32) → Option (Int32 × Int32 × (Nat → Int32))) (x2 : Int32) (y3 : Nat → Int32) : Option (Int32 × Int32 × (Nat → Int32)) := if 4 ≤ x2 then (kk1 y3) else (cl (s_X4_write 36 y3 ((u1 * 4) + x2) 0) fun r7 => nm (x2 + 1) fun x8 => bk1 (x8, r7))
def s_X2_sink_L1  (u1 : Int32) (kk1 : (Nat → Int32) → Option (Int32 × Int32 × (Nat → Int32))) : Nat → (Int32 × (Nat → Int32)) → Option (Int32 × Int32 × (Nat → Int32))
  | 0, _ => none
  | n + 1, tv => s_X2_sink_B1 u1 kk1 (s_X2_sink_L1 u1 kk1 n) tv.1 tv.2
def s_X2_sink (g0_8 : Int32) (f2 : Nat → Int32) (u1 : Int32) : Option (Int32 × Int32 × (Nat → Int32)) := cl (s_X2_allDrops f2 u1) fun r1 => s_X2_sink_L1 u1 (s_X2_sink_X1 g0_8 r1) 1000 (0, f2)
theorem nd_X2_sink : yX2_sink.cls = RX2 ∧ yX2_sink.cls ≠ "java/lang/invoke/MethodHandle" ∧ yX2_sink.cls ≠ "java/lang/invoke/VarHandle" ∧ (parseMethodDescriptor yX2_sink.desc).map (fun d => d.parameters.length) = some 1 := by decide +kernel
set_option maxHeartbeats 8000000 in
set_option maxRecDepth 100000 in
theorem k_X2_sink (l : Launch) (D : va_G) (cI cZ cC cS : ClassId) (sz : Nat) (a0 a2 : Nat) (w0_0 : Value) (w0_2 : Value) (w0_3 : Value) (w0_4 : Value) (w0_5 : Value) (w0_6 : Value) (w0_7 : Value) (g0_8 : Int32) (w0_9 : Value) (w0_10 : Value) (w0_11 : Value) (f2 : Nat → Int32) (u1 : Int32) (res : Int32 × Int32 × (Nat → Int32)) (hsp : s_X2_sink g0_8 f2 u1 = some res) : Met l yX2_sink wsX2_sink ({ frames := 1, cells := 0, slots := 0, locals := 22 }) (va_Pc [.ref a0, .int u1] (PB D cI cZ cC cS [(a0, .inr (2, [w0_0, .ref a2, w0_2, w0_3, w0_4, w0_5, w0_6, w0_7, .int g0_8, w0_9, w0_10, w0_11])), (a2, .inl (cI, 36, .inl f2))] sz)) (va_Qi (fun r (_ : Unit) => r = res.1) (fun _ t => va_P D vwCl [(a0, .inr (2, [w0_0, .ref a2, w0_2, w0_3, w0_4, w0_5, w0_6, w0_7, .int res.2.1, w0_9, w0_10, w0_11])), (a2, .inl (cI, 36, .inl res.2.2))] t.heap) (va_A [(a0, .inr (2, [w0_0, .ref a2, w0_2, w0_3, w0_4, w0_5, w0_6, w0_7, .int g0_8, w0_9, w0_10, w0_11])), (a2, .inl (cI, 36, .inl f2))] sz)) 0 0 (va_A [(a0, .inr (2, [w0_0, .ref a2, w0_2, w0_3, w0_4, w0_5, w0_6, w0_7, .int g0_8, w0_9, w0_10, w0_11])), (a2, .inl (cI, 36, .inl f2))] sz) := by
  refine Met.ofW (cc := cX2_sink) (maxL := 4) (ret := (some .int)) (by decide) rfl ?_
  intro p e s m args below meth c s₁ B hml hv
  obtain ⟨rfl, hsz, hP, hD0, hKU⟩ := hv
  have hx := B.exec
  have hb := B.bytes
  have hr := B.returns
  have hts := atoms_spec (ws := wsX2_sink) B.pre
  have hown : s.vm.findClass RX2 = some m.cls := findClass_of_methodNamed B.named
  have hlocks := B.notSynchronized
  have hK := hKU.1
  have hf_41 := hts (.fieldLink RX2 41 "ThinnedPots$Studio" "dropsRinsed" "I") (by decide +kernel)
  have hi_X2 : ∀ w ∈ u_ws RX2 TX2 12, w ∈ wsX2_sink := by decide +kernel
  have hf_19 := hts (.fieldLink RX2 19 "ThinnedPots$Studio" "drops" "[I") (by decide +kernel)
  have hst_X4_write := hts (.static yX4_write) (by decide +kernel)
  have hin_X4 := hts (.initialized RX4) (by decide +kernel)
  subst hsz
  have hD := hD0.self (sz := s.heap.size)
  generalize hAe : va_A [(a0, .inr (2, [w0_0, .ref a2, w0_2, w0_3, w0_4, w0_5, w0_6, w0_7, .int g0_8, w0_9, w0_10, w0_11])), (a2, .inl (cI, 36, .inl f2))] s.heap.size = A at hD ⊢
  have hA : ∀ q : Nat, s.heap.size ≤ q → A q := fun q h => by rw [← hAe]; exact Or.inr h
  have hP : va_P D vwCl [(a0, .inr (2, [w0_0, .ref a2, w0_2, w0_3, w0_4, w0_5, w0_6, w0_7, .int g0_8, w0_9, w0_10, w0_11])), (a2, .inl (cI, 36, .inl f2))] s.heap := hP
  generalize hHe : s.heap = H at hP ⊢
  have hS : va_S A s.heap H [] := by rw [hHe]; exact va_S.rf
  have hl := lv_entry ([.ref a0, .int u1]) (n := 4) (Nat.le_of_ble_eq_true rfl)
  rw [lg_entry_eq]
  generalize (lg_sl ([.ref a0, .int u1]) ++ List.replicate (4 - (lg_sl ([.ref a0, .int u1])).length) Slot.unset).toArray = ls at hl ⊢
  have hl : lv_has ls 4 [(0, .ref a0), (1, .int u1)] := hl
  unfold s_X2_sink at hsp
  refine lv_aload_n hx hb dX2_sink_0 rfl (lv_at hl 0 rfl) ?_
  refine lv_iload_n hx hb dX2_sink_1 rfl (lv_at hl 1 rfl) ?_
  obtain ⟨r1, hcr1, hsp⟩ := clE hsp
  refine call_i (w1 := [(a0, .inr (2, [w0_0, .ref a2, w0_2, w0_3, w0_4, w0_5, w0_6, w0_7, .int g0_8, w0_9, w0_10, w0_11])), (a2, .inl (cI, 36, .inl f2))]) (ws' := [(a0, .inr (2, [w0_0, .ref a2, w0_2, w0_3, w0_4, w0_5, w0_6, w0_7, .int g0_8, w0_9, w0_10, w0_11])), (a2, .inl (cI, 36, .inl f2))]) (va_runV (As := [.int u1]) (rest := []) ⟨hx, hb, hml, hown, hts⟩ (k_X2_allDrops l D cI cZ cC cS H.size a0 a2 (w0_0) (w0_2) (w0_3) (w0_4) (w0_5) (w0_6) (w0_7) (.int g0_8) (w0_9) (w0_10) (w0_11) f2 u1 r1 hcr1) (cwV 1 hts gX2_sink_X2_allDrops rfl rfl rfl nd_X2_allDrops ⟨Nat.le_of_ble_eq_true rfl, Nat.le_of_ble_eq_true rfl⟩) (PB.preV (ci := 2) (q0 := 0) hKU hP hD [0, 1] rfl rfl rfl rfl) rfl rfl hl.1 rfl (lv_room (Nat.le_of_ble_eq_true rfl)) dX2_sink_2 ⟨Nat.zero_le _, Nat.zero_le _⟩) hS hP hD hA [0, 1] rfl rfl rfl rfl (fun H locs hP hD hS => ?_)
  refine lv_istore_n (lv' := [(2, .int r1), (0, .ref a0), (1, .int u1)]) hx hb dX2_sink_5 rfl hl (by decide) rfl (fun ls hl => ?_)
  refine lv_iconst (v := 0) hx hb dX2_sink_6 (by decide) ?_
  refine lv_istore_n (lv' := [(3, .int 0), (2, .int r1), (0, .ref a0), (1, .int u1)]) hx hb dX2_sink_7 rfl hl (by decide) rfl (fun ls hl => ?_)
  refine ex_rule (K := s_X2_sink_X1 g0_8 r1) (P := fun (t1 : (Nat → Int32)) => [(a0, .inr (2, [w0_0, .ref a2, w0_2, w0_3, w0_4, w0_5, w0_6, w0_7, .int g0_8, w0_9, w0_10, w0_11])), (a2, .inl (cI, 36, .inl t1))]) (L := fun (t1 : (Nat → Int32)) => [(0, .ref a0), (2, .int r1)]) (nL := 4) (pcx := 32) (res := res) (A := A) (H0 := s.heap) ?_ (fun hx1 => ?_)
  · intro t1 H locs hsp hP hD hS ls hl
    obtain ⟨y4, rfl⟩ : ∃ z, z = t1 := ⟨_, rfl⟩
    unfold s_X2_sink_X1 at hsp; try dsimp only at hsp
    have hP : va_P D vwCl [(a0, .inr (2, [w0_0, .ref a2, w0_2, w0_3, w0_4, w0_5, w0_6, w0_7, .int g0_8, w0_9, w0_10, w0_11])), (a2, .inl (cI, 36, .inl y4))] H := hP
    have hD : va_D A [(a0, .inr (2, [w0_0, .ref a2, w0_2, w0_3, w0_4, w0_5, w0_6, w0_7, .int g0_8, w0_9, w0_10, w0_11])), (a2, .inl (cI, 36, .inl y4))] := hD
    have hl : lv_has ls 4 [(0, .ref a0), (2, .int r1)] := hl
    refine lv_aload_n hx hb dX2_sink_32 rfl (lv_at hl 0 rfl) ?_
    refine lv_dup hx hb dX2_sink_33 rfl ?_
    refine va_get (D := D) (ci := 2) (v := .int g0_8) (C := RX2) (T := TX2) (N := 12) hx hb hts hi_X2 hown hK hP 0 rfl rfl 8 (by decide) hf_41 (fun _ h9 => h9) rfl dX2_sink_34 ?_
    refine lv_iload_n hx hb dX2_sink_37 rfl (lv_at hl 1 rfl) ?_
    refine lv_iadd hx hb dX2_sink_38 ?_
    obtain ⟨x5, ex5, hsp⟩ := nmE hsp
    refine r_top ex5 ?_
    refine va_put (D := D) (ci := 2) (v := .int x5) (ty := .int) (C := RX2) (T := TX2) (N := 12) hx hb hts hi_X2 tyX2 tyX2_ok nmX2 hown hK hP hD hS 0 rfl rfl 8 (by decide) hf_41 (fun _ h9 => h9) rfl (by decide +kernel) rfl rfl (Nat.le_of_ble_eq_true rfl) dX2_sink_39 (fun H locs hP hD hS => ?_)
    have hP : va_P D vwCl [(a0, .inr (2, [w0_0, .ref a2, w0_2, w0_3, w0_4, w0_5, w0_6, w0_7, .int x5, w0_9, w0_10, w0_11])), (a2, .inl (cI, 36, .inl y4))] H := hP
    have hD : va_D A [(a0, .inr (2, [w0_0, .ref a2, w0_2, w0_3, w0_4, w0_5, w0_6, w0_7, .int x5, w0_9, w0_10, w0_11])), (a2, .inl (cI, 36, .inl y4))] := hD
    refine lv_iload_n hx hb dX2_sink_42 rfl (lv_at hl 1 rfl) ?_
    have hres := Option.some.inj hsp
    subst hres
    exact W.iret (v := r1) hx hb hr (fun t ht hW => ⟨⟨r1, (), rfl, rfl, P_at ht hP⟩, hS.F ht⟩) hS.2.2 dX2_sink_43
  have hl := lv_sub hl (l' := [(0, .ref a0), (1, .int u1), (2, .int r1), (3, .int 0)]) [2, 3, 1, 0] rfl
  refine lp_rule (F := s_X2_sink_L1 u1 (s_X2_sink_X1 g0_8 r1)) (P := fun (tv : Int32 × (Nat → Int32)) => [(a0, .inr (2, [w0_0, .ref a2, w0_2, w0_3, w0_4, w0_5, w0_6, w0_7, .int g0_8, w0_9, w0_10, w0_11])), (a2, .inl (cI, 36, .inl tv.2))]) (L := fun (tv : Int32 × (Nat → Int32)) => [(0, .ref a0), (1, .int u1), (2, .int r1), (3, .int tv.1)]) (nL := 4) (res := res) (A := A) (H0 := s.heap) (fun _ => rfl) ?_ 1000 (0, f2) _ _ hsp hP hD hS _ hl
    intro n1 ih1 tv H locs hsp hP hD hS ls hl
    obtain ⟨x2, y3⟩ := tv
    have hsp : s_X2_sink_B1  u1 (s_X2_sink_X1 g0_8 r1) (s_X2_sink_L1 u1 (s_X2_sink_X1 g0_8 r1) n1) x2 y3 = some res := hsp
    unfold s_X2_sink_B1 at hsp
    have hP : va_P D vwCl [(a0, .inr (2, [w0_0, .ref a2, w0_2, w0_3, w0_4, w0_5, w0_6, w0_7, .int g0_8, w0_9, w0_10, w0_11])), (a2, .inl (cI, 36, .inl y3))] H := hP
    have hD : va_D A [(a0, .inr (2, [w0_0, .ref a2, w0_2, w0_3, w0_4, w0_5, w0_6, w0_7, .int g0_8, w0_9, w0_10, w0_11])), (a2, .inl (cI, 36, .inl y3))] := hD
    have hl : lv_has ls 4 [(0, .ref a0), (1, .int u1), (2, .int r1), (3, .int x2)] := hl
    refine lv_iload_n hx hb dX2_sink_8 rfl (lv_at hl 3 rfl) ?_
    refine lv_iconst (v := 4) hx hb dX2_sink_9 (by decide) ?_
    refine lv_icmp_ge (tgt := 32) hx hb dX2_sink_10 (by decide) (fun c6 => ?_) (fun c6 => ?_)
    · have hsp := itT hsp c6
      exact hx1 y3 _ _ hsp hP hD hS _ (lv_sub hl [0, 2] rfl)
    have hsp := itF hsp c6
    refine lv_aload_n hx hb dX2_sink_13 rfl (lv_at hl 0 rfl) ?_
    refine va_get (D := D) (ci := 2) (v := .ref a2) (C := RX2) (T := TX2) (N := 12) hx hb hts hi_X2 hown hK hP 0 rfl rfl 1 (by decide) hf_19 (fun _ h9 => h9) rfl dX2_sink_14 ?_
    refine lv_iload_n hx hb dX2_sink_17 rfl (lv_at hl 1 rfl) ?_
    refine lv_iconst (v := 4) hx hb dX2_sink_18 (by decide) ?_
    refine lv_imul hx hb dX2_sink_19 ?_
    refine lv_iload_n hx hb dX2_sink_20 rfl (lv_at hl 3 rfl) ?_
    refine lv_iadd hx hb dX2_sink_21 ?_
    refine lv_iconst (v := 0) hx hb dX2_sink_22 (by decide) ?_
    obtain ⟨r7, hcr7, hsp⟩ := clE hsp
    refine call_v (w1 := [(a2, .inl (cI, 36, .inl r7))]) (ws' := [(a0, .inr (2, [w0_0, .ref a2, w0_2, w0_3, w0_4, w0_5, w0_6, w0_7, .int g0_8, w0_9, w0_10, w0_11])), (a2, .inl (cI, 36, .inl r7))]) (va_runSN (As := [.ref a2, .int ((u1 * 4) + x2), .int 0]) (rest := []) ⟨hx, hb, hml, hown, hts⟩ (k_X4_write l D cI cZ cC cS H.size a2 36 y3 ((u1 * 4) + x2) 0 r7 hcr7) ⟨va_cnB 3 hts gX2_sink_X4_write_n15 rfl rfl rfl (mn_Studio_15 hKU.2.2) hin_X4 nd_X4_write.2 ⟨Nat.le_of_ble_eq_true rfl, Nat.le_of_ble_eq_true rfl⟩, hst_X4_write, trivial⟩ (PB.preS hKU hP hD [1] rfl rfl) rfl rfl hl.1 rfl (lv_room (Nat.le_of_ble_eq_true rfl)) dX2_sink_23 ⟨Nat.zero_le _, Nat.zero_le _⟩) hS hP hD hA [1] rfl rfl rfl rfl (fun H locs hP hD hS => ?_)
    obtain ⟨x8, ex8, hsp⟩ := nmE hsp
    refine lv_iinc (k := 3) (v := x8) (lv' := [(3, .int x8), (0, .ref a0), (1, .int u1), (2, .int r1)]) hx hb dX2_sink_26 hl rfl (by rw [ex8]; rfl) (by decide) rfl (fun ls hl => ?_)
    refine lv_goto (tgt := 8) hx hb dX2_sink_29 (by decide) ?_
    exact ih1 (x8, r7) _ _ hsp hP hD hS _ (lv_sub hl [1, 2, 3, 0] rfl)
