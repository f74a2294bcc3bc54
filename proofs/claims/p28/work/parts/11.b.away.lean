theorem nd_L_away : yL_away.cls = RL ∧ yL_away.cls ≠ "java/lang/invoke/MethodHandle" ∧ yL_away.cls ≠ "java/lang/invoke/VarHandle" ∧ (parseMethodDescriptor yL_away.desc).map (fun d => d.parameters.length) = some 2 := by decide +kernel
set_option maxHeartbeats 8000000 in
set_option maxRecDepth 100000 in
theorem k_L_away (l : Launch) (D : va_G) (cI cZ cC cS : ClassId) (sz : Nat) (u0 : Int32) (u1 : Int32) (res : Int32) (hsp : s_L_away u0 u1 = some res) : Met l yL_away wsL_away ({ frames := 0, cells := 0, slots := 0, locals := 0 }) (va_Pc [.int u0, .int u1] (PB D cI cZ cC cS [] sz)) (va_Qi (fun r (_ : Unit) => r = res) (fun _ t => va_P D vwCl [] t.heap) (va_A [] sz)) 0 0 (va_A [] sz) := by
  refine Met.ofW (cc := cL_away) (maxL := 2) (ret := (some .int)) (by decide) rfl ?_
  intro p e s m args below meth c s₁ B hml hv
  obtain ⟨rfl, hsz, hP, hD0, hKU⟩ := hv
  have hx := B.exec
  have hb := B.bytes
  have hr := B.returns
  have hts := atoms_spec (ws := wsL_away) B.pre
  have hown : s.vm.findClass RL = some m.cls := findClass_of_methodNamed B.named
  have hlocks := B.notSynchronized
  have hK := hKU.1
  subst hsz
  have hD := hD0.self (sz := s.heap.size)
  generalize hAe : va_A [] s.heap.size = A at hD ⊢
  have hA : ∀ q : Nat, s.heap.size ≤ q → A q := fun q h => by rw [← hAe]; exact Or.inr h
  have hP : va_P D vwCl [] s.heap := hP
  generalize hHe : s.heap = H at hP ⊢
  have hS : va_S A s.heap H [] := by rw [hHe]; exact va_S.rf
  have hl := lv_entry ([.int u0, .int u1]) (n := 2) (Nat.le_of_ble_eq_true rfl)
  rw [lg_entry_eq]
  generalize (lg_sl ([.int u0, .int u1]) ++ List.replicate (2 - (lg_sl ([.int u0, .int u1])).length) Slot.unset).toArray = ls at hl ⊢
  have hl : lv_has ls 2 [(0, .int u0), (1, .int u1)] := hl
  unfold s_L_away at hsp
  refine lv_iload_n hx hb dL_away_0 rfl (lv_at hl 0 rfl) ?_
  refine lv_iload_n hx hb dL_away_1 rfl (lv_at hl 1 rfl) ?_
  refine lv_icmp_le (tgt := 11) hx hb dL_away_2 (by decide) (fun c1 => ?_) (fun c1 => ?_)
  · have hsp := itT hsp c1
    refine lv_iload_n hx hb dL_away_11 rfl (lv_at hl 1 rfl) ?_
    refine lv_iload_n hx hb dL_away_12 rfl (lv_at hl 0 rfl) ?_
    refine lv_isub hx hb dL_away_13 ?_
    have hres := Option.some.inj hsp
    subst hres
    exact W.iret (v := u1 - u0) hx hb hr (fun t ht hW => ⟨⟨u1 - u0, (), rfl, rfl, P_at ht hP⟩, hS.F ht⟩) hS.2.2 dL_away_14
  have hsp := itF hsp c1
  refine lv_iload_n hx hb dL_away_5 rfl (lv_at hl 0 rfl) ?_
  refine lv_iload_n hx hb dL_away_6 rfl (lv_at hl 1 rfl) ?_
  refine lv_isub hx hb dL_away_7 ?_
  refine lv_goto (tgt := 14) hx hb dL_away_8 (by decide) ?_
  have hres := Option.some.inj hsp
  subst hres
  exact W.iret (v := u0 - u1) hx hb hr (fun t ht hW => ⟨⟨u0 - u1, (), rfl, rfl, P_at ht hP⟩, hS.F ht⟩) hS.2.2 dL_away_14
