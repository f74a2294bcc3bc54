-- the script's cells: read by the law, no cell of the world
def PX (b0 L : Nat) (xs : Nat → Int32) (sz : Nat) (U : State) : Prop := U.heap.size = sz ∧ va_X b0 L xs U U.heap ∧ b0 < sz
theorem PX.blind {b0 L : Nat} {xs : Nat → Int32} {sz : Nat} {av : List Value} : FrameBlind (va_Pc av (PX b0 L xs sz)) := fun a U g mk q => ⟨q.1, q.2.1, va_X.moved (u := U) (U := U.calling g mk a) (Vm.Alike.refl U.vm) q.2.2.1, q.2.2.2⟩
theorem preX {s : State} {b0 L : Nat} {xs : Nat → Int32} {A : Nat → Prop} {H : Heap} {locs : List Loc} {av : List Value} (hX : va_X b0 L xs s s.heap) (hbl : b0 < s.heap.size) (hbA : ¬ A b0) (hS : va_S A s.heap H locs) : PreS s H (va_Pc av (PX b0 L xs H.size)) av :=
  ⟨PX.blind, fun U hU hW => ⟨rfl, by rw [hU], by
    have h1 : va_X b0 L xs s H := va_X.kept hX (hS.2.1 b0 hbl hbA)
    rw [hU]
    exact va_X.moved hW.alike h1, Nat.lt_of_lt_of_le hbl hS.1⟩⟩
def s_L_cell (L : Nat) (xs : Nat → Int32) (u1 : Int32) : Option Int32 := if Int32.ofNat L ≤ u1 then some ((15485959 * u1 + 8043) &&& 2147483647) else ld L xs u1 fun x => some (x &&& 2147483647)
theorem nd_L_cell : yL_cell.cls = RL ∧ yL_cell.cls ≠ "java/lang/invoke/MethodHandle" ∧ yL_cell.cls ≠ "java/lang/invoke/VarHandle" ∧ (parseMethodDescriptor yL_cell.desc).map (fun d => d.parameters.length) = some 2 := by decide +kernel
set_option maxHeartbeats 8000000 in
set_option maxRecDepth 100000 in
theorem k_L_cell (l : Launch) (sz b0 L : Nat) (xs : Nat → Int32) (u1 : Int32) (res : Int32) (hsp : s_L_cell L xs u1 = some res) : Met l yL_cell wsL_cell ({ frames := 0, cells := 0, slots := 0, locals := 0 }) (va_Pc [.ref b0, .int u1] (PX b0 L xs sz)) (va_Qi (fun r (_ : Unit) => r = res) (fun _ _ => True) (va_A [] sz)) 0 0 (va_A [] sz) := by
  refine Met.ofW (cc := cL_cell) (maxL := 2) (ret := (some .int)) (by decide) rfl ?_
  intro p e s m args below meth c s₁ B hml hv
  obtain ⟨rfl, hsz, hX, hbl⟩ := hv
  have hx := B.exec
  have hb := B.bytes
  have hr := B.returns
  have hts := atoms_spec (ws := wsL_cell) B.pre
  have hown : s.vm.findClass RL = some m.cls := findClass_of_methodNamed B.named
  have hlocks := B.notSynchronized
  have hc_7 := hts (.constant RL 7 (15485959)) (by decide +kernel)
  have hc_8 := hts (.constant RL 8 (2147483647)) (by decide +kernel)
  subst hsz
  have hbA : ¬ va_A [] s.heap.size b0 := by
    rintro (⟨k, e, hk⟩ | h)
    · simp at hk
    · exact absurd hbl (Nat.not_lt.mpr h)
  generalize hAe : va_A [] s.heap.size = A at hbA ⊢
  have hS : va_S A s.heap s.heap [] := va_S.rf
  have hl := lv_entry ([.ref b0, .int u1]) (n := 2) (Nat.le_of_ble_eq_true rfl)
  rw [lg_entry_eq]
  generalize (lg_sl ([.ref b0, .int u1]) ++ List.replicate (2 - (lg_sl ([.ref b0, .int u1])).length) Slot.unset).toArray = ls at hl ⊢
  have hl : lv_has ls 2 [(0, .ref b0), (1, .int u1)] := hl
  unfold s_L_cell at hsp
  refine lv_iload_n hx hb dL_cell_0 rfl (lv_at hl 1 rfl) ?_
  refine lv_aload_n hx hb dL_cell_1 rfl (lv_at hl 0 rfl) ?_
  refine va_slen hx hb hX hbl hbA hS dL_cell_2 ?_
  refine lv_icmp_ge (tgt := 12) hx hb dL_cell_3 (by decide) (fun c1 => ?_) (fun c1 => ?_)
  · have hsp := itT hsp c1
    refine lv_ldc hx hb hown hc_7 dL_cell_12 ?_
    refine lv_iload_n hx hb dL_cell_14 rfl (lv_at hl 1 rfl) ?_
    refine lv_imul hx hb dL_cell_15 ?_
    refine lv_sipush (v := 8043) hx hb dL_cell_16 (by decide) ?_
    refine lv_iadd hx hb dL_cell_19 ?_
    refine lv_ldc hx hb hown hc_8 dL_cell_20 ?_
    refine lv_iand hx hb dL_cell_22 ?_
    have hres := Option.some.inj hsp
    subst hres
    exact W.iret hx hb hr (fun t ht hW => ⟨⟨_, (), rfl, rfl, trivial⟩, hS.F ht⟩) hS.2.2 dL_cell_23
  have hsp := itF hsp c1
  obtain ⟨x1, ex1, hn1, hsp⟩ := ldE hsp
  refine lv_aload_n hx hb dL_cell_6 rfl (lv_at hl 0 rfl) ?_
  refine lv_iload_n hx hb dL_cell_7 rfl (lv_at hl 1 rfl) ?_
  refine va_sld hx hb hX hbl hbA hS hn1 dL_cell_8 ?_
  refine r_top ex1 ?_
  refine lv_goto (tgt := 20) hx hb dL_cell_9 (by decide) ?_
  refine lv_ldc hx hb hown hc_8 dL_cell_20 ?_
  refine lv_iand hx hb dL_cell_22 ?_
  have hres := Option.some.inj hsp
  subst hres
  exact W.iret hx hb hr (fun t ht hW => ⟨⟨_, (), rfl, rfl, trivial⟩, hS.F ht⟩) hS.2.2 dL_cell_23
