abbrev vwCl : List vw_C := [(RX0, TX0, 6), (RX1, TX1, 4), (RX2, TX2, 12), (RX3, TX3, 5), (RX4, TX4, 7)]
def NL : List Cond := [.methodLinkNest "ThinnedPots$Studio" 15 ⟨"ThinnedPots", "write", "([III)V"⟩ "ThinnedPots", .methodLinkNest "ThinnedPots$Work" 32 ⟨"ThinnedPots", "write", "([III)V"⟩ "ThinnedPots", .methodLinkNest "ThinnedPots$Studio" 53 ⟨"ThinnedPots", "copyRow", "([I[I)V"⟩ "ThinnedPots", .methodLinkNest "ThinnedPots$Studio" 65 ⟨"ThinnedPots", "isWithin", "(II)Z"⟩ "ThinnedPots", .methodLinkNest "ThinnedPots$Studio" 61 ⟨"ThinnedPots", "at", "([II)I"⟩ "ThinnedPots", .methodLinkNest "ThinnedPots$Studio" 57 ⟨"ThinnedPots", "isBetween", "(III)Z"⟩ "ThinnedPots", .methodLinkNest "ThinnedPots$Studio" 131 ⟨"ThinnedPots", "divide", "(II)I"⟩ "ThinnedPots", .methodLinkNest "ThinnedPots$Advice" 62 ⟨"ThinnedPots", "write", "([III)V"⟩ "ThinnedPots", .methodLinkNest "ThinnedPots$Advice" 70 ⟨"ThinnedPots", "at", "([II)I"⟩ "ThinnedPots", .methodLinkNest "ThinnedPots$Advice" 59 ⟨"ThinnedPots", "divide", "(II)I"⟩ "ThinnedPots", .methodLinkNest "ThinnedPots$Studio" 73 ⟨"ThinnedPots", "add", "([III)V"⟩ "ThinnedPots", .methodLinkNest "ThinnedPots$Studio" 134 ⟨"ThinnedPots", "remainder", "(II)I"⟩ "ThinnedPots"]
theorem NL_warm {s U : State} (hW : s.WarmedH U.vm) (h : ∀ w ∈ NL, va_Nw w s) : ∀ w ∈ NL, va_Nw w U := by
  exact List.forall_mem_cons.mpr ⟨va_Nw.warmM hW (h _ (List.mem_of_getElem? (i := 0) rfl)), List.forall_mem_cons.mpr ⟨va_Nw.warmM hW (h _ (List.mem_of_getElem? (i := 1) rfl)), List.forall_mem_cons.mpr ⟨va_Nw.warmM hW (h _ (List.mem_of_getElem? (i := 2) rfl)), List.forall_mem_cons.mpr ⟨va_Nw.warmM hW (h _ (List.mem_of_getElem? (i := 3) rfl)), List.forall_mem_cons.mpr ⟨va_Nw.warmM hW (h _ (List.mem_of_getElem? (i := 4) rfl)), List.forall_mem_cons.mpr ⟨va_Nw.warmM hW (h _ (List.mem_of_getElem? (i := 5) rfl)), List.forall_mem_cons.mpr ⟨va_Nw.warmM hW (h _ (List.mem_of_getElem? (i := 6) rfl)), List.forall_mem_cons.mpr ⟨va_Nw.warmM hW (h _ (List.mem_of_getElem? (i := 7) rfl)), List.forall_mem_cons.mpr ⟨va_Nw.warmM hW (h _ (List.mem_of_getElem? (i := 8) rfl)), List.forall_mem_cons.mpr ⟨va_Nw.warmM hW (h _ (List.mem_of_getElem? (i := 9) rfl)), List.forall_mem_cons.mpr ⟨va_Nw.warmM hW (h _ (List.mem_of_getElem? (i := 10) rfl)), List.forall_mem_cons.mpr ⟨va_Nw.warmM hW (h _ (List.mem_of_getElem? (i := 11) rfl)), fun _ h => absurd h List.not_mem_nil⟩⟩⟩⟩⟩⟩⟩⟩⟩⟩⟩⟩
theorem mn_Studio_15 {U : State} (h : ∀ w ∈ NL, va_Nw w U) : va_Nw (.methodLinkNest "ThinnedPots$Studio" 15 ⟨"ThinnedPots", "write", "([III)V"⟩ "ThinnedPots") U := h _ (List.mem_of_getElem? (i := 0) rfl)
theorem mn_Work_32 {U : State} (h : ∀ w ∈ NL, va_Nw w U) : va_Nw (.methodLinkNest "ThinnedPots$Work" 32 ⟨"ThinnedPots", "write", "([III)V"⟩ "ThinnedPots") U := h _ (List.mem_of_getElem? (i := 1) rfl)
theorem mn_Studio_53 {U : State} (h : ∀ w ∈ NL, va_Nw w U) : va_Nw (.methodLinkNest "ThinnedPots$Studio" 53 ⟨"ThinnedPots", "copyRow", "([I[I)V"⟩ "ThinnedPots") U := h _ (List.mem_of_getElem? (i := 2) rfl)
theorem mn_Studio_65 {U : State} (h : ∀ w ∈ NL, va_Nw w U) : va_Nw (.methodLinkNest "ThinnedPots$Studio" 65 ⟨"ThinnedPots", "isWithin", "(II)Z"⟩ "ThinnedPots") U := h _ (List.mem_of_getElem? (i := 3) rfl)
theorem mn_Studio_61 {U : State} (h : ∀ w ∈ NL, va_Nw w U) : va_Nw (.methodLinkNest "ThinnedPots$Studio" 61 ⟨"ThinnedPots", "at", "([II)I"⟩ "ThinnedPots") U := h _ (List.mem_of_getElem? (i := 4) rfl)
theorem mn_Studio_57 {U : State} (h : ∀ w ∈ NL, va_Nw w U) : va_Nw (.methodLinkNest "ThinnedPots$Studio" 57 ⟨"ThinnedPots", "isBetween", "(III)Z"⟩ "ThinnedPots") U := h _ (List.mem_of_getElem? (i := 5) rfl)
theorem mn_Studio_131 {U : State} (h : ∀ w ∈ NL, va_Nw w U) : va_Nw (.methodLinkNest "ThinnedPots$Studio" 131 ⟨"ThinnedPots", "divide", "(II)I"⟩ "ThinnedPots") U := h _ (List.mem_of_getElem? (i := 6) rfl)
theorem mn_Advice_62 {U : State} (h : ∀ w ∈ NL, va_Nw w U) : va_Nw (.methodLinkNest "ThinnedPots$Advice" 62 ⟨"ThinnedPots", "write", "([III)V"⟩ "ThinnedPots") U := h _ (List.mem_of_getElem? (i := 7) rfl)
theorem mn_Advice_70 {U : State} (h : ∀ w ∈ NL, va_Nw w U) : va_Nw (.methodLinkNest "ThinnedPots$Advice" 70 ⟨"ThinnedPots", "at", "([II)I"⟩ "ThinnedPots") U := h _ (List.mem_of_getElem? (i := 8) rfl)
theorem mn_Advice_59 {U : State} (h : ∀ w ∈ NL, va_Nw w U) : va_Nw (.methodLinkNest "ThinnedPots$Advice" 59 ⟨"ThinnedPots", "divide", "(II)I"⟩ "ThinnedPots") U := h _ (List.mem_of_getElem? (i := 9) rfl)
theorem mn_Studio_73 {U : State} (h : ∀ w ∈ NL, va_Nw w U) : va_Nw (.methodLinkNest "ThinnedPots$Studio" 73 ⟨"ThinnedPots", "add", "([III)V"⟩ "ThinnedPots") U := h _ (List.mem_of_getElem? (i := 10) rfl)
theorem mn_Studio_134 {U : State} (h : ∀ w ∈ NL, va_Nw w U) : va_Nw (.methodLinkNest "ThinnedPots$Studio" 134 ⟨"ThinnedPots", "remainder", "(II)I"⟩ "ThinnedPots") U := h _ (List.mem_of_getElem? (i := 11) rfl)
def KU (D : va_G) (cI cZ cC cS : ClassId) (U : State) : Prop := va_K D vwCl [(cI, .int), (cI, .int), (cI, .int), (cS, .object RX2)] U ∧ va_AO RX2 U ∧ ∀ w ∈ NL, va_Nw w U
theorem NL_tab : ∀ w ∈ NL, w.onTables = true := by decide +kernel
theorem KU.warm {D : va_G} {cI cZ cC cS : ClassId} {s U : State} (hW : s.WarmedH U.vm) (h : KU D cI cZ cC cS s) : KU D cI cZ cC cS U := ⟨va_K.moved hW.alike h.1, va_AO.moved hW.alike h.2.1, NL_warm hW h.2.2⟩
theorem KU.blind {D : va_G} {cI cZ cC cS : ClassId} {a : Array Value} {U : State} {g : JFrame} {mk : MethodId} (h : KU D cI cZ cC cS U) : KU D cI cZ cC cS (U.calling g mk a) := ⟨va_K.moved (u := U) (U := U.calling g mk a) (Vm.Alike.refl U.vm) h.1, va_AO.moved (u := U) (U := U.calling g mk a) (Vm.Alike.refl U.vm) h.2.1, fun w hw => va_Nw.same (u := U) (U := U.calling g mk a) (NL_tab w hw) rfl (h.2.2 w hw)⟩
def PB (D : va_G) (cI cZ cC cS : ClassId) (WS : va_W) (sz : Nat) (U : State) : Prop := U.heap.size = sz ∧ va_P D vwCl WS U.heap ∧ va_D (fun _ => True) WS ∧ KU D cI cZ cC cS U
theorem PB.blind {D : va_G} {cI cZ cC cS : ClassId} {WS : va_W} {sz : Nat} {av : List Value} : FrameBlind (va_Pc av (PB D cI cZ cC cS WS sz)) := fun _ _ _ _ q => ⟨q.1, q.2.1, q.2.2.1, q.2.2.2.1, KU.blind q.2.2.2.2⟩
theorem P_sub {D : va_G} {ws wc : va_W} {H : Heap} (h : va_P D vwCl ws H) (is : List Nat) (hC : is.map (fun i => ws[i]?) = wc.map some) : va_P D vwCl wc H := by
  intro k q hk
  have h1 : (is.map (fun i => ws[i]?))[k]? = some (some q) := by rw [hC, List.getElem?_map, hk]; rfl
  rw [List.getElem?_map] at h1
  cases hi : is[k]? with
  | none => rw [hi] at h1; cases h1
  | some i => rw [hi] at h1; exact h i q (Option.some.inj h1)
theorem PB.preS {D : va_G} {cI cZ cC cS : ClassId} {s : State} {H : Heap} {ws wc : va_W} {A : Nat → Prop} {av : List Value} (hKU : KU D cI cZ cC cS s) (hP : va_P D vwCl ws H) (hD : va_D A ws) (is : List Nat) (hn : va_nd is = true) (hC : is.map (fun i => ws[i]?) = wc.map some) : PreS s H (va_Pc av (PB D cI cZ cC cS wc H.size)) av :=
  ⟨PB.blind, fun U hU hW => ⟨rfl, by rw [hU], by rw [hU]; exact P_sub hP is hC, (va_D.sub hD is hn hC).weaken (fun _ _ _ _ => trivial), KU.warm hW hKU⟩⟩
theorem PB.preV {D : va_G} {cI cZ cC cS : ClassId} {s : State} {H : Heap} {ws wc : va_W} {A : Nat → Prop} {As : List Value} {a ci q0 : Nat} {q : vw_C} {fs : List Value} (hKU : KU D cI cZ cC cS s) (hP : va_P D vwCl ws H) (hD : va_D A ws) (is : List Nat) (hn : va_nd is = true) (hC : is.map (fun i => ws[i]?) = wc.map some) (hc : vwCl[ci]? = some q) (he : ws[q0]? = some (a, .inr (ci, fs))) : PreV s H q.1 a (va_Pc (.ref a :: As) (PB D cI cZ cC cS wc H.size)) As :=
  ⟨PB.blind, va_recv hKU.1 hP hc he, (PB.preS hKU hP hD is hn hC).2⟩
def wset (ws : va_W) : List Nat → va_W → va_W
  | i :: is, e :: w => wset (ws.set i e) is w
  | _, _ => ws
theorem wset_at : ∀ (is : List Nat) (w1 ws : va_W), is.length = w1.length → ∀ (k : Nat) (q : Nat × va_E), (wset ws is w1)[k]? = some q → q ∈ w1 ∨ (k ∉ is ∧ ws[k]? = some q)
  | [], [], ws, _, k, q, h => Or.inr ⟨List.not_mem_nil, h⟩
  | [], _ :: _, _, h0, _, _, _ => by simp at h0
  | _ :: _, [], _, h0, _, _, _ => by simp at h0
  | i :: is, e :: w, ws, h0, k, q, h => by
    have h0' : is.length = w.length := by simpa using h0
    rcases wset_at is w (ws.set i e) h0' k q h with h1 | ⟨h1, h2⟩
    · exact Or.inl (List.mem_cons_of_mem _ h1)
    · by_cases hk : k = i
      · subst hk
        have hl : k < ws.length := by
          have := (List.getElem?_eq_some_iff.mp h2).1
          simpa using this
        rw [List.getElem?_set_self hl] at h2
        cases h2
        exact Or.inl List.mem_cons_self
      · rw [List.getElem?_set_ne (Ne.symm hk)] at h2
        exact Or.inr ⟨fun z => (List.mem_cons.mp z).elim hk h1, h2⟩
theorem D_fst {A : Nat → Prop} {ws ws' : va_W} (h : va_D A ws) (hf : ws'.map Prod.fst = ws.map Prod.fst) : va_D A ws' := by
  have key : ∀ (k : Nat) (q : Nat × va_E), ws'[k]? = some q → ∃ q0, ws[k]? = some q0 ∧ q0.1 = q.1 := by
    intro k q hk
    have h1 : (ws'.map Prod.fst)[k]? = some q.1 := by rw [List.getElem?_map, hk]; rfl
    rw [hf, List.getElem?_map] at h1
    cases hw : ws[k]? with
    | none => rw [hw] at h1; cases h1
    | some q0 => rw [hw] at h1; exact ⟨q0, rfl, Option.some.inj h1⟩
  refine ⟨fun i j x y hi hj hxy => ?_, fun k q hk => ?_⟩
  · obtain ⟨x0, h1, h2⟩ := key i x hi
    obtain ⟨y0, h3, h4⟩ := key j y hj
    exact h.1 i j x0 y0 h1 h3 (h2.trans (hxy.trans h4.symm))
  · obtain ⟨q0, h1, h2⟩ := key k q hk
    rw [← h2]
    exact h.2 k q0 h1
theorem P_join {D : va_G} {A : Nat → Prop} {ws wc w1 ws' : va_W} {H H1 : Heap} (hP : va_P D vwCl ws H) (hD : va_D A ws) (is : List Nat) (hC : is.map (fun i => ws[i]?) = wc.map some) (hw : w1.map Prod.fst = wc.map Prod.fst) (he : wset ws is w1 = ws') (hk : ∀ q : Nat, q < H.size → ¬ va_A wc H.size q → H1[q]? = H[q]?) (hP1 : va_P D vwCl w1 H1) : va_P D vwCl ws' H1 := by
  subst he
  have hlen : is.length = w1.length := by
    have e1 := congrArg List.length hC
    have e2 := congrArg List.length hw
    simp only [List.length_map] at e1 e2
    omega
  intro k q hq
  rcases wset_at is w1 ws hlen k q hq with h1 | ⟨h1, h2⟩
  · obtain ⟨j, hj⟩ := List.getElem?_of_mem h1
    exact hP1 j q hj
  · refine (hP k q h2).kept (hk q.1 (hP k q h2).lt ?_)
    rintro (⟨j, e, hj⟩ | hge)
    · have h3 : (is.map (fun i => ws[i]?))[j]? = some (some (q.1, e)) := by rw [hC, List.getElem?_map, hj]; rfl
      rw [List.getElem?_map] at h3
      cases hi : is[j]? with
      | none => rw [hi] at h3; cases h3
      | some i =>
        rw [hi] at h3
        have h4 := hD.1 k i q (q.1, e) h2 (Option.some.inj h3) rfl
        subst h4
        exact h1 (List.mem_of_getElem? hi)
    · have := (hP k q h2).lt
      omega
theorem A_free {A : Nat → Prop} {ws wc : va_W} {H0 H : Heap} {locs : List Loc} (hD : va_D A ws) (hS : va_S A H0 H locs) (hA : ∀ q, H0.size ≤ q → A q) (is : List Nat) (hC : is.map (fun i => ws[i]?) = wc.map some) : ∀ q, va_A wc H.size q → A q := va_free hD hS hA is hC
section RW
variable {p : Program} {l : Launch} {e : Env} {R : Room} {s : State} {m : MethodId} {args : Array Value} {below : List Frame} {meth : Method} {c : Code} {H : Heap} {locs : List Loc} {cells slots : Nat} {Q : State → Prop}
variable {cc : ByteArray} {pc : Nat} {ls : Array Slot} {rest st0 : List Value} {D : va_G} {A : Nat → Prop} {H0 : Heap} {tys : List (ClassId × FieldType)} {ws wc w1 ws' : va_W} {aa : Array Value}
theorem r_top {v x : Int32} (ev : v = x) (k : W p l e R s m args below meth c H locs cells slots Q (F0 m pc ls (.int v :: rest))) : W p l e R s m args below meth c H locs cells slots Q (F0 m pc ls (.int x :: rest)) := ev ▸ k
theorem r_topl {v x : Int64} (ev : v = x) (k : W p l e R s m args below meth c H locs cells slots Q (F0 m pc ls (.long v :: rest))) : W p l e R s m args below meth c H locs cells slots Q (F0 m pc ls (.long x :: rest)) := ev ▸ k
theorem call_i {res : Int32} (hr : va_Run p l e R s m args below meth c H locs cells slots 0 0 (F0 m pc ls st0) rest (va_Qi (fun r (_ : Unit) => r = res) (fun _ t => va_P D vwCl w1 t.heap) (va_A wc H.size) aa) (va_A wc H.size)) (hS : va_S A H0 H locs) (hP : va_P D vwCl ws H) (hD : va_D A ws) (hA : ∀ q, H0.size ≤ q → A q) (is : List Nat) (hC : is.map (fun i => ws[i]?) = wc.map some) (hw : w1.map Prod.fst = wc.map Prod.fst) (he : wset ws is w1 = ws') (hf : ws'.map Prod.fst = ws.map Prod.fst)
    (kk : ∀ (H1 : Heap) (locs1 : List Loc), va_P D vwCl ws' H1 → va_D A ws' → va_S A H0 H1 locs1 → W p l e R s m args below meth c H1 locs1 cells slots Q (F0 m (pc + 3) ls (.int res :: rest))) : W p l e R s m args below meth c H locs cells slots Q (F0 m pc ls st0) := by
  have hF := A_free hD hS hA is hC
  refine va_calli hr hS (fun q _ h => hF q h) hF (fun r u t H1 locs1 ht _ hp hB _ hk hS1 => ?_)
  subst hp; subst ht
  exact kk _ _ (P_join hP hD is hC hw he hk hB) (D_fst hD hf) hS1
theorem call_z {res : Int32} (hr : va_Run p l e R s m args below meth c H locs cells slots 0 0 (F0 m pc ls st0) rest (va_Qi (fun r (_ : Unit) => r = res ∧ (res = 0 ∨ res = 1)) (fun _ t => va_P D vwCl w1 t.heap) (va_A wc H.size) aa) (va_A wc H.size)) (hS : va_S A H0 H locs) (hP : va_P D vwCl ws H) (hD : va_D A ws) (hA : ∀ q, H0.size ≤ q → A q) (is : List Nat) (hC : is.map (fun i => ws[i]?) = wc.map some) (hw : w1.map Prod.fst = wc.map Prod.fst) (he : wset ws is w1 = ws') (hf : ws'.map Prod.fst = ws.map Prod.fst)
    (kk : ∀ (H1 : Heap) (locs1 : List Loc), va_P D vwCl ws' H1 → va_D A ws' → va_S A H0 H1 locs1 → (res = 0 ∨ res = 1) → W p l e R s m args below meth c H1 locs1 cells slots Q (F0 m (pc + 3) ls (.int res :: rest))) : W p l e R s m args below meth c H locs cells slots Q (F0 m pc ls st0) := by
  have hF := A_free hD hS hA is hC
  refine va_calli hr hS (fun q _ h => hF q h) hF (fun r u t H1 locs1 ht _ hp hB _ hk hS1 => ?_)
  obtain ⟨hp, hz⟩ := hp
  subst hp; subst ht
  exact kk _ _ (P_join hP hD is hC hw he hk hB) (D_fst hD hf) hS1 hz
theorem call_v (hr : va_Run p l e R s m args below meth c H locs cells slots 0 0 (F0 m pc ls st0) rest (va_Qv (fun (_ : Unit) => True) (fun _ t => va_P D vwCl w1 t.heap) (va_A wc H.size) aa) (va_A wc H.size)) (hS : va_S A H0 H locs) (hP : va_P D vwCl ws H) (hD : va_D A ws) (hA : ∀ q, H0.size ≤ q → A q) (is : List Nat) (hC : is.map (fun i => ws[i]?) = wc.map some) (hw : w1.map Prod.fst = wc.map Prod.fst) (he : wset ws is w1 = ws') (hf : ws'.map Prod.fst = ws.map Prod.fst)
    (kk : ∀ (H1 : Heap) (locs1 : List Loc), va_P D vwCl ws' H1 → va_D A ws' → va_S A H0 H1 locs1 → W p l e R s m args below meth c H1 locs1 cells slots Q (F0 m (pc + 3) ls rest)) : W p l e R s m args below meth c H locs cells slots Q (F0 m pc ls st0) := by
  have hF := A_free hD hS hA is hC
  refine va_callv hr hS (fun q _ h => hF q h) hF (fun u t H1 locs1 ht _ _ hB _ hk hS1 => ?_)
  subst ht
  exact kk _ _ (P_join hP hD is hC hw he hk hB) (D_fst hD hf) hS1
theorem call_q {res : Option Nat} (hr : va_Run p l e R s m args below meth c H locs cells slots 0 0 (F0 m pc ls st0) rest (va_Qq (fun r (_ : Unit) => r = res) (fun _ t => va_P D vwCl w1 t.heap) (va_A wc H.size) aa) (va_A wc H.size)) (hS : va_S A H0 H locs) (hP : va_P D vwCl ws H) (hD : va_D A ws) (hA : ∀ q, H0.size ≤ q → A q) (is : List Nat) (hC : is.map (fun i => ws[i]?) = wc.map some) (hw : w1.map Prod.fst = wc.map Prod.fst) (he : wset ws is w1 = ws') (hf : ws'.map Prod.fst = ws.map Prod.fst)
    (kk : ∀ (H1 : Heap) (locs1 : List Loc), va_P D vwCl ws' H1 → va_D A ws' → va_S A H0 H1 locs1 → W p l e R s m args below meth c H1 locs1 cells slots Q (F0 m (pc + 3) ls (va_rf res :: rest))) : W p l e R s m args below meth c H locs cells slots Q (F0 m pc ls st0) := by
  have hF := A_free hD hS hA is hC
  refine va_callq hr hS (fun q _ h => hF q h) hF (fun r u t H1 locs1 ht _ hp hB _ hk hS1 => ?_)
  subst hp; subst ht
  exact kk _ _ (P_join hP hD is hC hw he hk hB) (D_fst hD hf) hS1
theorem r_iald (hexec : p.tables.exec = Jvm.exec) (hb : c.code = cc) (hK : va_K D vwCl tys s) (hP : va_P D vwCl ws H) (q0 t0 : Nat) {a : Nat} {cA : ClassId} {n : Nat} {f : Nat → Int32} (ha : ws[q0]? = some (a, .inl (cA, n, .inl f))) (ht : tys[t0]? = some (cA, .int)) {i v : Int32} (ev : v = f i.toNatClampNeg) (hin : vp_in i n) (hdg : decode cc pc = .ok (.iaload, 1))
    (kk : W p l e R s m args below meth c H locs cells slots Q (F0 m (pc + 1) ls (.int v :: rest))) : W p l e R s m args below meth c H locs cells slots Q (F0 m pc ls (.int i :: .ref a :: rest)) :=
  va_iald hexec hb hK hP q0 t0 ha ht hin hdg (ev ▸ kk)
theorem r_zald (hexec : p.tables.exec = Jvm.exec) (hb : c.code = cc) (hK : va_K D vwCl tys s) (hP : va_P D vwCl ws H) (q0 t0 : Nat) {a : Nat} {cA : ClassId} {n : Nat} {f : Nat → Int32} (ha : ws[q0]? = some (a, .inl (cA, n, .inl f))) (ht : tys[t0]? = some (cA, .boolean)) {i v : Int32} (ev : v = f i.toNatClampNeg) (hin : vp_in i n) (hdg : decode cc pc = .ok (.baload, 1))
    (kk : W p l e R s m args below meth c H locs cells slots Q (F0 m (pc + 1) ls (.int v :: rest))) : W p l e R s m args below meth c H locs cells slots Q (F0 m pc ls (.int i :: .ref a :: rest)) :=
  va_zald hexec hb hK hP q0 t0 ha ht hin hdg (ev ▸ kk)
theorem r_cald (hexec : p.tables.exec = Jvm.exec) (hb : c.code = cc) (hK : va_K D vwCl tys s) (hP : va_P D vwCl ws H) (q0 t0 : Nat) {a : Nat} {cA : ClassId} {n : Nat} {f : Nat → Int32} (ha : ws[q0]? = some (a, .inl (cA, n, .inl f))) (ht : tys[t0]? = some (cA, .char)) {i v : Int32} (ev : v = f i.toNatClampNeg) (hin : vp_in i n) (hdg : decode cc pc = .ok (.caload, 1))
    (kk : W p l e R s m args below meth c H locs cells slots Q (F0 m (pc + 1) ls (.int v :: rest))) : W p l e R s m args below meth c H locs cells slots Q (F0 m pc ls (.int i :: .ref a :: rest)) :=
  va_cald hexec hb hK hP q0 t0 ha ht hin hdg (ev ▸ kk)
theorem r_iast (hexec : p.tables.exec = Jvm.exec) (hb : c.code = cc) (hK : va_K D vwCl tys s) (hP : va_P D vwCl ws H) (hD : va_D A ws) (hS : va_S A H0 H locs) (q0 t0 : Nat) {a : Nat} {cA : ClassId} {n : Nat} {f g : Nat → Int32} (ha : ws[q0]? = some (a, .inl (cA, n, .inl f))) (ht : tys[t0]? = some (cA, .int)) {i x : Int32} (eg : g = upd f i.toNatClampNeg x) (hin : vp_in i n) (he : ws.set q0 (a, .inl (cA, n, .inl g)) = ws') (hdg : decode cc pc = .ok (.iastore, 1))
    (kk : ∀ (H1 : Heap) (locs1 : List Loc), va_P D vwCl ws' H1 → va_D A ws' → va_S A H0 H1 locs1 → W p l e R s m args below meth c H1 locs1 cells slots Q (F0 m (pc + 1) ls rest)) : W p l e R s m args below meth c H locs cells slots Q (F0 m pc ls (.int x :: .int i :: .ref a :: rest)) := by
  subst eg; subst he
  exact va_iast hexec hb hK hP hD hS q0 t0 ha ht hin hdg kk
theorem r_zast (hexec : p.tables.exec = Jvm.exec) (hb : c.code = cc) (hK : va_K D vwCl tys s) (hP : va_P D vwCl ws H) (hD : va_D A ws) (hS : va_S A H0 H locs) (q0 t0 : Nat) {a : Nat} {cA : ClassId} {n : Nat} {f g : Nat → Int32} (ha : ws[q0]? = some (a, .inl (cA, n, .inl f))) (ht : tys[t0]? = some (cA, .boolean)) {i x : Int32} (eg : g = upd f i.toNatClampNeg (vp_nar .boolean x)) (hin : vp_in i n) (he : ws.set q0 (a, .inl (cA, n, .inl g)) = ws') (hdg : decode cc pc = .ok (.bastore, 1))
    (kk : ∀ (H1 : Heap) (locs1 : List Loc), va_P D vwCl ws' H1 → va_D A ws' → va_S A H0 H1 locs1 → W p l e R s m args below meth c H1 locs1 cells slots Q (F0 m (pc + 1) ls rest)) : W p l e R s m args below meth c H locs cells slots Q (F0 m pc ls (.int x :: .int i :: .ref a :: rest)) := by
  subst eg; subst he
  exact va_zast hexec hb hK hP hD hS q0 t0 ha ht hin hdg kk
theorem r_cast (hexec : p.tables.exec = Jvm.exec) (hb : c.code = cc) (hK : va_K D vwCl tys s) (hP : va_P D vwCl ws H) (hD : va_D A ws) (hS : va_S A H0 H locs) (q0 t0 : Nat) {a : Nat} {cA : ClassId} {n : Nat} {f g : Nat → Int32} (ha : ws[q0]? = some (a, .inl (cA, n, .inl f))) (ht : tys[t0]? = some (cA, .char)) {i x : Int32} (eg : g = upd f i.toNatClampNeg (vp_nar .char x)) (hin : vp_in i n) (he : ws.set q0 (a, .inl (cA, n, .inl g)) = ws') (hdg : decode cc pc = .ok (.castore, 1))
    (kk : ∀ (H1 : Heap) (locs1 : List Loc), va_P D vwCl ws' H1 → va_D A ws' → va_S A H0 H1 locs1 → W p l e R s m args below meth c H1 locs1 cells slots Q (F0 m (pc + 1) ls rest)) : W p l e R s m args below meth c H locs cells slots Q (F0 m pc ls (.int x :: .int i :: .ref a :: rest)) := by
  subst eg; subst he
  exact va_cast hexec hb hK hP hD hS q0 t0 ha ht hin hdg kk
end RW
-- the functions that the methods are read as: steps that can fail
def ld {β : Type} (n : Nat) (f : Nat → Int32) (i : Int32) (k : Int32 → Option β) : Option β := if i < 0 ∨ n ≤ i.toNatClampNeg then none else k (f i.toNatClampNeg)
def sto {β : Type} (n : Nat) (f : Nat → Int32) (i x : Int32) (k : (Nat → Int32) → Option β) : Option β := if i < 0 ∨ n ≤ i.toNatClampNeg then none else k (upd f i.toNatClampNeg x)
def ldq {β : Type} (n : Nat) (f : Nat → Option Nat) (i : Int32) (k : Option Nat → Option β) : Option β := if i < 0 ∨ n ≤ i.toNatClampNeg then none else k (f i.toNatClampNeg)
def dv {β : Type} (x y : Int32) (k : Int32 → Option β) : Option β := if y = 0 then none else k (x / y)
def rmd {β : Type} (x y : Int32) (k : Int32 → Option β) : Option β := if y = 0 then none else k (x - x / y * y)
def nm {α β : Type} (x : α) (k : α → Option β) : Option β := k x
def cl {α β : Type} (o : Option α) (k : α → Option β) : Option β := o.bind k
theorem ldE {β : Type} {n : Nat} {f : Nat → Int32} {i : Int32} {k : Int32 → Option β} {r : β} (h : ld n f i k = some r) : ∃ v, v = f i.toNatClampNeg ∧ vp_in i n ∧ k v = some r := by
  unfold ld at h
  split at h
  · cases h
  · exact ⟨_, rfl, by assumption, h⟩
theorem ldqE {β : Type} {n : Nat} {f : Nat → Option Nat} {i : Int32} {k : Option Nat → Option β} {r : β} (h : ldq n f i k = some r) : ∃ v, v = f i.toNatClampNeg ∧ vp_in i n ∧ k v = some r := by
  unfold ldq at h
  split at h
  · cases h
  · exact ⟨_, rfl, by assumption, h⟩
theorem stoE {β : Type} {n : Nat} {f : Nat → Int32} {i x : Int32} {k : (Nat → Int32) → Option β} {r : β} (h : sto n f i x k = some r) : ∃ v, v = upd f i.toNatClampNeg x ∧ vp_in i n ∧ k v = some r := by
  unfold sto at h
  split at h
  · cases h
  · exact ⟨_, rfl, by assumption, h⟩
theorem dvE {β : Type} {x y : Int32} {k : Int32 → Option β} {r : β} (h : dv x y k = some r) : ∃ v, v = x / y ∧ ¬ y = 0 ∧ k v = some r := by
  unfold dv at h
  split at h
  · cases h
  · exact ⟨_, rfl, by assumption, h⟩
theorem rmdE {β : Type} {x y : Int32} {k : Int32 → Option β} {r : β} (h : rmd x y k = some r) : ∃ v, v = x - x / y * y ∧ ¬ y = 0 ∧ k v = some r := by
  unfold rmd at h
  split at h
  · cases h
  · exact ⟨_, rfl, by assumption, h⟩
theorem nmE {α β : Type} {x : α} {k : α → Option β} {r : β} (h : nm x k = some r) : ∃ v, v = x ∧ k v = some r := ⟨_, rfl, h⟩
theorem clE {α β : Type} {o : Option α} {k : α → Option β} {r : β} (h : cl o k = some r) : ∃ v, o = some v ∧ k v = some r := Option.bind_eq_some_iff.mp h
theorem itT {β : Type} {c : Prop} [Decidable c] {a b : Option β} {r : β} (h : (if c then a else b) = some r) (hc : c) : a = some r := by rw [if_pos hc] at h; exact h
theorem itF {β : Type} {c : Prop} [Decidable c] {a b : Option β} {r : β} (h : (if c then a else b) = some r) (hc : ¬ c) : b = some r := by rw [if_neg hc] at h; exact h
theorem zE {v : Int32} (h : v = 0 ∨ v = 1) : narrow .boolean (.int v) = .int v := by rcases h with rfl | rfl <;> rfl
theorem some_e {β : Type} {a b : β} (h : some a = some b) : b = a := (Option.some.inj h).symm
section LP
variable {p : Program} {l : Launch} {e : Env} {R : Room} {s : State} {m : MethodId} {args : Array Value} {below : List Frame} {meth : Method} {c : Code} {cells slots : Nat} {Q : State → Prop} {D : va_G} {A : Nat → Prop} {H0 : Heap}
theorem ex_rule {α β : Type} (K : α → Option β) (P : α → va_W) (L : α → List (Nat × Value)) (nL pcx : Nat) (res : β) {H' : Heap} {locs' : List Loc} {g : JFrame}
    (hx : ∀ (x : α) (H : Heap) (locs : List Loc), K x = some res → va_P D vwCl (P x) H → va_D A (P x) → va_S A H0 H locs → ∀ ls : Array Slot, lv_has ls nL (L x) → W p l e R s m args below meth c H locs cells slots Q (F0 m pcx ls []))
    (k : (∀ (x : α) (H : Heap) (locs : List Loc), K x = some res → va_P D vwCl (P x) H → va_D A (P x) → va_S A H0 H locs → ∀ ls : Array Slot, lv_has ls nL (L x) → W p l e R s m args below meth c H locs cells slots Q (F0 m pcx ls [])) → W p l e R s m args below meth c H' locs' cells slots Q g) : W p l e R s m args below meth c H' locs' cells slots Q g := k hx
theorem lp_rule {α β : Type} (F : Nat → α → Option β) (P : α → va_W) (L : α → List (Nat × Value)) (nL : Nat) {pc : Nat} (res : β) (hz : ∀ x, F 0 x = none)
    (hs : ∀ n : Nat, (∀ (x : α) (H : Heap) (locs : List Loc), F n x = some res → va_P D vwCl (P x) H → va_D A (P x) → va_S A H0 H locs → ∀ ls : Array Slot, lv_has ls nL (L x) → W p l e R s m args below meth c H locs cells slots Q (F0 m pc ls [])) →
      ∀ (x : α) (H : Heap) (locs : List Loc), F (n + 1) x = some res → va_P D vwCl (P x) H → va_D A (P x) → va_S A H0 H locs → ∀ ls : Array Slot, lv_has ls nL (L x) → W p l e R s m args below meth c H locs cells slots Q (F0 m pc ls [])) :
    ∀ (n : Nat) (x : α) (H : Heap) (locs : List Loc), F n x = some res → va_P D vwCl (P x) H → va_D A (P x) → va_S A H0 H locs → ∀ ls : Array Slot, lv_has ls nL (L x) → W p l e R s m args below meth c H locs cells slots Q (F0 m pc ls []) := by
  intro n
  induction n with
  | zero =>
    intro x H locs h
    rw [hz] at h
    cases h
  | succ n ih => exact hs n ih
end LP
section RW2
variable {p : Program} {l : Launch} {e : Env} {R : Room} {s : State} {m : MethodId} {args : Array Value} {below : List Frame} {meth : Method} {c : Code} {H : Heap} {locs : List Loc} {cells slots : Nat} {Q : State → Prop}
variable {cc : ByteArray} {pc : Nat} {ls : Array Slot} {rest st0 : List Value} {D : va_G} {A : Nat → Prop} {H0 : Heap} {ws wc wr ws' : va_W} {aa : Array Value} {cI cZ cC cS : ClassId}
theorem call_a {α : Type} {w1 : α → va_W} {mc ms : Nat} (hr : va_Run p l e R s m args below meth c H locs cells slots mc ms (F0 m pc ls st0) rest (va_Qv (fun (_ : Unit) => True) (fun _ t => ∃ x : α, va_P D vwCl (w1 x) t.heap ∧ va_D (va_A wc H.size) (w1 x)) (va_A wc H.size) aa) (va_A wc H.size)) (hS : va_S A H0 H locs) (hP : va_P D vwCl ws H) (hD : va_D A ws) (hA : ∀ q, H0.size ≤ q → A q) (isC isR : List Nat) (hC : isC.map (fun i => ws[i]?) = wc.map some) (hR : isR.map (fun i => ws[i]?) = wr.map some) (hn : va_nd isR = true) (hdis : ∀ i ∈ isR, i ∉ isC)
    (kk : ∀ (x : α) (H1 : Heap) (locs1 : List Loc), va_P D vwCl (wr ++ w1 x) H1 → va_D A (wr ++ w1 x) → va_S A H0 H1 locs1 → W p l e R s m args below meth c H1 locs1 (cells + mc) (slots + ms) Q (F0 m (pc + 3) ls rest)) : W p l e R s m args below meth c H locs cells slots Q (F0 m pc ls st0) := by
  have hF := A_free hD hS hA isC hC
  refine va_callv hr hS (fun q _ h => hF q h) hF (fun u t H1 locs1 ht _ _ hB _ hk hS1 => ?_)
  obtain ⟨x, hP1, hD1⟩ := hB
  subst ht
  obtain ⟨h1, h2⟩ := va_join hP hD isC isR hC hR hn hdis hk hF hP1 hD1
  exact kk x _ _ h1 h2 hS1
theorem r_newaI (hexec : p.tables.exec = Jvm.exec) (hb : c.code = cc) (harr : (Cond.arrayClass .int).before args s = true) (hK : va_K D vwCl [(cI, .int), (cI, .int), (cI, .int), (cS, .object RX2)] s) (hP : va_P D vwCl ws H) (hD : va_D A ws) (hS : va_S A H0 H locs) (hA : ∀ q, H0.size ≤ q → A q) {n : Int32} {N' : Nat} (hn : ¬ n < 0) (hN : n.toNatClampNeg = N') (hbytes : N' * componentBytes .int ≤ 536870912) (hcells : cells + 1 ≤ R.cells) (hslots : slots + N' ≤ R.slots) (hdg : decode cc pc = .ok (.newarray .int, 2))
    (kk : ∀ (q : Nat) (H1 : Heap), va_P D vwCl (ws ++ [(q, .inl (cI, N', .inl (fun _ => 0)))]) H1 → va_D A (ws ++ [(q, .inl (cI, N', .inl (fun _ => 0)))]) → va_S A H0 H1 locs → W p l e R s m args below meth c H1 locs (cells + 1) (slots + N') Q (F0 m (pc + 2) ls (.ref q :: rest))) : W p l e R s m args below meth c H locs cells slots Q (F0 m pc ls (.int n :: rest)) := by
  refine va_newa (atype := .int) (ty := .int) (a0 := (N', .inl (fun _ => 0))) hexec hb harr rfl hK hP hD hS hA (fun _ => rfl) hn hN hbytes hcells hslots hdg (fun q cA H1 hK1 hP1 hD1 hS1 => ?_)
  have e1 : s.vm.findClass ("[" ++ FieldType.int.toString) = some cA := (hK1.2 4 _ rfl).2
  have e2 : s.vm.findClass ("[" ++ FieldType.int.toString) = some cI := (hK.2 0 _ rfl).2
  obtain rfl : cA = cI := Option.some.inj (e1.symm.trans e2)
  exact kk q H1 hP1 hD1 hS1
end RW2
def cpy {β : Type} (n0 n1 : Nat) (f g : Nat → Int32) (n : Int32) (k : (Nat → Int32) → Option β) : Option β := if n < 0 ∨ n0 < n.toNatClampNeg ∨ n1 < n.toNatClampNeg then none else k (va_cpy f g 0 0 n.toNatClampNeg)
theorem cpyE {β : Type} {n0 n1 : Nat} {f g : Nat → Int32} {n : Int32} {k : (Nat → Int32) → Option β} {r : β} (h : cpy n0 n1 f g n k = some r) : ∃ v, v = va_cpy f g 0 0 n.toNatClampNeg ∧ (¬ n < 0 ∧ n.toNatClampNeg ≤ n0 ∧ n.toNatClampNeg ≤ n1) ∧ k v = some r := by
  unfold cpy at h
  split at h
  · cases h
  · rename_i hc
    exact ⟨_, rfl, ⟨fun q => hc (Or.inl q), Nat.le_of_not_lt fun q => hc (Or.inr (Or.inl q)), Nat.le_of_not_lt fun q => hc (Or.inr (Or.inr q))⟩, h⟩
section RW3
variable {p : Program} {l : Launch} {e : Env} {R : Room} {s : State} {m : MethodId} {args : Array Value} {below : List Frame} {meth : Method} {c : Code} {H : Heap} {locs : List Loc} {cells slots : Nat} {Q : State → Prop}
variable {cc : ByteArray} {pc : Nat} {ls : Array Slot} {rest : List Value} {D : va_G} {A : Nat → Prop} {H0 : Heap} {tys : List (ClassId × FieldType)} {ws ws' : va_W}
theorem r_copyi (hexec : p.tables.exec = Jvm.exec) (hb : c.code = cc) (hml : c.maxLocals = ls.size) {own : String} {index : Nat} (hown : s.vm.findClass own = some m.cls) (hlink : (Cond.methodLink own index arraycopyName).before args s = true) (hnat : (Cond.native arraycopyName).before args s = true) (hstat : (Cond.static arraycopyName).before args s = true) (hini : (Cond.initialized "java/lang/System").before args s = true)
    (hK : va_K D vwCl tys s) (hP : va_P D vwCl ws H) (hD : va_D A ws) (hS : va_S A H0 H locs) (q0 q1 t0 t1 : Nat) {a a0 : Nat} {c0 c1 : ClassId} {n0 n1 : Nat} {f g y : Nat → Int32} (ha0 : ws[q0]? = some (a0, .inl (c0, n0, .inl f))) (ha1 : ws[q1]? = some (a, .inl (c1, n1, .inl g))) (ht0 : tys[t0]? = some (c0, .int)) (ht1 : tys[t1]? = some (c1, .int))
    {n : Int32} (ey : y = va_cpy f g 0 0 n.toNatClampNeg) (hn : ¬ n < 0 ∧ n.toNatClampNeg ≤ n0 ∧ n.toNatClampNeg ≤ n1) (he : ws.set q1 (a, .inl (c1, n1, .inl y)) = ws') (hframes : 1 ≤ R.frames) (hlocals : (rest.map fun v => v.category).sum + (nativeFrameWords "java/lang/System" "arraycopy" 5 + 11) ≤ R.locals) (hdg : decode cc pc = .ok (.invokestatic index, 3))
    (kk : ∀ (H1 : Heap) (locs1 : List Loc), va_P D vwCl ws' H1 → va_D A ws' → va_S A H0 H1 locs1 → W p l e R s m args below meth c H1 locs1 cells slots Q (F0 m (pc + 3) ls rest)) : W p l e R s m args below meth c H locs cells slots Q (F0 m pc ls (.int n :: .int 0 :: .ref a :: .int 0 :: .ref a0 :: rest)) := by
  subst ey; subst he
  exact va_copyi hexec hb hml hown hlink hnat hstat hini hK hP hD hS q0 q1 t0 t1 ha0 ha1 ht0 ht1 rfl (by decide) (by decide) hn.1 (by rw [sb_cl0, Nat.zero_add]; exact hn.2.1) (by rw [sb_cl0, Nat.zero_add]; exact hn.2.2) (fun _ _ => rfl) hframes hlocals hdg kk
end RW3
section RW4
variable {p : Program} {l : Launch} {e : Env} {R : Room} {s : State} {m : MethodId} {args : Array Value} {below : List Frame} {meth : Method} {c : Code} {H : Heap} {locs : List Loc} {cells slots : Nat} {Q : State → Prop}
variable {cc : ByteArray} {pc : Nat} {ls : Array Slot} {rest st0 : List Value} {D : va_G} {A : Nat → Prop} {H0 : Heap} {ws wc w1 ws' : va_W} {aa : Array Value} {cI cZ cC cS : ClassId}
theorem r_newaS (hexec : p.tables.exec = Jvm.exec) (hb : c.code = cc) {own : String} {index : Nat} (hown : s.vm.findClass own = some m.cls) (hcl : (Cond.classLink own index RX2).before args s = true) (hAO : va_AO RX2 s) (hK : va_K D vwCl [(cI, .int), (cI, .int), (cI, .int), (cS, .object RX2)] s) (hP : va_P D vwCl ws H) (hD : va_D A ws) (hS : va_S A H0 H locs) (hA : ∀ q, H0.size ≤ q → A q) {n : Int32} {N' : Nat} (hn : ¬ n < 0) (hN : n.toNatClampNeg = N') (hbytes : N' * 4 ≤ 536870912) (hcells : cells + 1 ≤ R.cells) (hslots : slots + N' ≤ R.slots) (hdg : decode cc pc = .ok (.anewarray index, 3))
    (kk : ∀ (q : Nat) (H1 : Heap), va_P D vwCl (ws ++ [(q, .inl (cS, N', .inr (.inr (.inr (.inr (fun _ => none))))))]) H1 → va_D A (ws ++ [(q, .inl (cS, N', .inr (.inr (.inr (.inr (fun _ => none))))))]) → va_S A H0 H1 locs → W p l e R s m args below meth c H1 locs (cells + 1) (slots + N') Q (F0 m (pc + 3) ls (.ref q :: rest))) : W p l e R s m args below meth c H locs cells slots Q (F0 m pc ls (.int n :: rest)) := by
  refine va_newq (C := RX2) hexec hb hown hcl hAO hK hP hD hS hA hn hN hbytes hcells hslots hdg (fun q cA H1 hK1 hP1 hD1 hS1 => ?_)
  obtain ⟨-, kA, comp, -, -, -, e1⟩ := hK1.2 4 _ rfl
  obtain ⟨-, kB, comp2, -, -, -, e2⟩ := hK.2 3 _ rfl
  obtain rfl : cA = cS := Option.some.inj (e1.symm.trans e2)
  exact kk q H1 hP1 hD1 hS1
theorem call_r {ar : Nat} (hr : va_Run p l e R s m args below meth c H locs cells slots 0 0 (F0 m pc ls st0) rest (va_Qr (fun (_ : Unit) => True) (fun _ ra t => ra = ar ∧ va_P D vwCl w1 t.heap) (va_A wc H.size) aa) (va_A wc H.size)) (hS : va_S A H0 H locs) (hP : va_P D vwCl ws H) (hD : va_D A ws) (hA : ∀ q, H0.size ≤ q → A q) (is : List Nat) (hC : is.map (fun i => ws[i]?) = wc.map some) (hw : w1.map Prod.fst = wc.map Prod.fst) (he : wset ws is w1 = ws') (hf : ws'.map Prod.fst = ws.map Prod.fst)
    (kk : ∀ (H1 : Heap) (locs1 : List Loc), va_P D vwCl ws' H1 → va_D A ws' → va_S A H0 H1 locs1 → W p l e R s m args below meth c H1 locs1 cells slots Q (F0 m (pc + 3) ls (.ref ar :: rest))) : W p l e R s m args below meth c H locs cells slots Q (F0 m pc ls st0) := by
  have hF := A_free hD hS hA is hC
  refine va_callr hr hS (fun q _ h => hF q h) hF (fun u ra t H1 locs1 ht _ _ hB _ hk hS1 => ?_)
  obtain ⟨hra, hB⟩ := hB
  subst hra; subst ht
  exact kk _ _ (P_join hP hD is hC hw he hk hB) (D_fst hD hf) hS1
end RW4
def zck {β : Type} (x : Int32) (o : Option β) : Option β := if x = 0 ∨ x = 1 then o else none
theorem zckE {β : Type} {x : Int32} {o : Option β} {r : β} (h : zck x o = some r) : (x = 0 ∨ x = 1) ∧ o = some r := by
  unfold zck at h
  split at h
  · exact ⟨by assumption, h⟩
  · cases h
theorem P_at {D : va_G} {ws : va_W} {H : Heap} {t : State} (ht : t.heap = H) (hP : va_P D vwCl ws H) : va_P D vwCl ws t.heap := by rw [ht]; exact hP

