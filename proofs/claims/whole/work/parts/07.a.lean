/-! THE CLAIM OUT OF ONE WALK OF THE LAW'S BODY. Your part is whole_start (and what it stands on); all else here is the same for every law, but numbers. -/
def R_law : String := "ThinnedPotsLaw"
def lw_P (b : Addr) (xs : List Int32) (args : Array Value) (s : State) : Prop := args = #[.ref b] ∧ s.IntsAt b xs ∧ xs.length ≤ 2560 ∧ (Jvm.Cond.and given_1 narrow_1).before args s = true
def lw_Q (_ : Array Value) (s : State) (o : Outcome) (t : State) : Prop := o = .returned (some (.int 1)) ∧ Framed s o t [] 600000 7302250
def lw_Z (below : List Frame) (a : Array Value) (s : State) : State → Prop := fun t => ∃ o, t.status = .running ∧ Ended t below o ∧ lw_Q a s o t
/-- the law's own end, with 1 on the stack, nothing written that was there before, its room as the claim has it -/
theorem lw_ret {p : Program} {l : Launch} {e : Env} {s : State} {m : MethodId} {below : List Frame} {meth : Method} {c : Code} {b : Nat} (hx : p.tables.exec = Jvm.exec) (hb : c.code = code) (hr : meth.sig.returnType = ret) (hlocks : meth.locks = false) {pc : Nat} {H : Heap} {ls : Array Slot} (hdg : decode code pc = .ok (.ireturn, 1)) : W p l e room_1 s m #[Value.ref b] below meth c H [] 600000 7302250 (lw_Z below #[Value.ref b] s) (F0 m pc ls [.int 1]) := by
  intro T hT X
  obtain ⟨fs, hret, hrun, hended, hW, hframe⟩ := X.leave (v := some (.int 1)) (hlocks := hlocks) (fun h => by rw [hr] at h; cases h)
  have hmeth' : T.vm.method? m = some meth := X.method'
  refine ⟨T.setFrames fs, ?_, .returned (some (.int 1)), hrun, hended, rfl, ⟨_, rfl⟩, hW, hframe⟩
  jvm_step X.here [X.here.top, hx, hb, hdg, hmeth', hr, ret, narrow_b1]
  (try refine ⟨rfl, ?_⟩); (try refine ⟨rfl, ?_⟩)
  first | (intro acts; rw [hret _ acts rfl rfl rfl]) | rw [hret _ _ rfl rfl rfl]
  exact Steps.refl _
/-- what holds at the law's entry: the machine, the code, the tables' words (any of lw_tbl by 'hts w (by decide +kernel)'), the script of L ints xs at the cell b, what the Statement gives of the start (any of its parts by flat_of_before) -/
def lw_At (p : Program) (s : State) (m : MethodId) (meth : Method) (c : Code) (b L : Nat) (xs : Nat → Int32) : Prop :=
  p.tables.exec = Jvm.exec ∧ c.code = code ∧ meth.sig.returnType = ret ∧ c.maxLocals = 4 ∧ s.vm.findClass R_law = some m.cls ∧ (∀ w ∈ lw_tbl, w.before #[Value.ref b] s = true) ∧ va_X b L xs s s.heap ∧ b < s.heap.size ∧ meth.locks = false ∧ (Jvm.Cond.and given_1 narrow_1).before #[Value.ref b] s = true
-- a call that makes cells and answers an int; what it made stands behind the world
section RW5
variable {p : Program} {l : Launch} {e : Env} {R : Room} {s : State} {m : MethodId} {args : Array Value} {below : List Frame} {meth : Method} {c : Code} {H : Heap} {locs : List Loc} {cells slots : Nat} {Q : State → Prop}
variable {cc : ByteArray} {pc : Nat} {ls : Array Slot} {rest st0 : List Value} {D : va_G} {A : Nat → Prop} {H0 : Heap} {ws wc : va_W} {aa : Array Value}
theorem D_join {A : Nat → Prop} {ws w1a wn wc : va_W} {H : Heap} (hP : va_P D vwCl ws H) (hD : va_D A ws) (hw : w1a.map Prod.fst = wc.map Prod.fst) (hD1 : va_D (va_A wc H.size) (w1a ++ wn)) (hA : ∀ q, va_A wc H.size q → A q) : va_D A (ws ++ wn) := by
  have hlen : w1a.length = wc.length := by
    have e2 := congrArg List.length hw
    simpa using e2
  have hwn : ∀ (k : Nat) (q : Nat × va_E), wn[k]? = some q → (w1a ++ wn)[w1a.length + k]? = some q := fun k q hk => by
    rw [List.getElem?_append_right (by omega)]
    rw [show w1a.length + k - w1a.length = k by omega]
    exact hk
  have hge : ∀ (k : Nat) (q : Nat × va_E), wn[k]? = some q → H.size ≤ q.1 := by
    intro k q hk
    rcases hD1.2 _ q (hwn k q hk) with ⟨j, e, hj⟩ | h
    · exfalso
      have hjl : j < wc.length := (List.getElem?_eq_some_iff.mp hj).1
      have h1 : (wc.map Prod.fst)[j]? = some q.1 := by rw [List.getElem?_map, hj]; rfl
      rw [← hw, List.getElem?_map] at h1
      cases hz : w1a[j]? with
      | none => rw [hz] at h1; cases h1
      | some z =>
        rw [hz] at h1
        have h2 : (w1a ++ wn)[j]? = some z := by rw [List.getElem?_append_left (by omega)]; exact hz
        have := hD1.1 _ _ _ _ h2 (hwn k q hk) (Option.some.inj h1)
        omega
    · exact h
  refine va_D.app hD ⟨fun i j p q hi hj hpq => ?_, fun k q hk => hA _ (hD1.2 _ q (hwn k q hk))⟩ (fun i j p q hi hj => ?_)
  · have := hD1.1 _ _ _ _ (hwn i p hi) (hwn j q hj) hpq
    omega
  · have h1 := (hP i p hi).lt
    have h2 := hge j q hj
    intro h
    rw [h] at h1
    omega
theorem call_ai {α : Type} {res : Int32} {mc ms : Nat} {ws' w1a wn : α → va_W} (hr : va_Run p l e R s m args below meth c H locs cells slots mc ms (F0 m pc ls st0) rest (va_Qi (fun r (_ : Unit) => r = res) (fun _ t => ∃ x : α, va_P D vwCl (w1a x ++ wn x) t.heap ∧ va_D (va_A wc H.size) (w1a x ++ wn x)) (va_A wc H.size) aa) (va_A wc H.size)) (hS : va_S A H0 H locs) (hP : va_P D vwCl ws H) (hD : va_D A ws) (hA : ∀ q, H0.size ≤ q → A q) (is : List Nat) (hC : is.map (fun i => ws[i]?) = wc.map some) (hw : ∀ x, (w1a x).map Prod.fst = wc.map Prod.fst) (he : ∀ x, wset ws is (w1a x) = ws' x) (hf : ∀ x, (ws' x).map Prod.fst = ws.map Prod.fst)
    (kk : ∀ (x : α) (H1 : Heap) (locs1 : List Loc), va_P D vwCl (ws' x ++ wn x) H1 → va_D A (ws' x ++ wn x) → va_S A H0 H1 locs1 → W p l e R s m args below meth c H1 locs1 (cells + mc) (slots + ms) Q (F0 m (pc + 3) ls (.int res :: rest))) : W p l e R s m args below meth c H locs cells slots Q (F0 m pc ls st0) := by
  have hF := A_free hD hS hA is hC
  refine va_calli hr hS (fun q _ h => hF q h) hF (fun r u t H1 locs1 ht _ hp hB _ hk hS1 => ?_)
  obtain ⟨x, hP1, hD1⟩ := hB
  subst hp; subst ht
  have hPa : va_P D vwCl (w1a x) t.heap := fun k q h => hP1 k q (by rw [List.getElem?_append_left (List.getElem?_eq_some_iff.mp h).1]; exact h)
  have hPn : va_P D vwCl (wn x) t.heap := fun k q h => hP1 ((w1a x).length + k) q (by rw [List.getElem?_append_right (by omega), show (w1a x).length + k - (w1a x).length = k by omega]; exact h)
  have h1 := P_join hP hD is hC (hw x) (he x) hk hPa
  have h2 := D_join hP hD (hw x) hD1 hF
  refine kk x _ _ (h1.app hPn) (D_fst h2 ?_) hS1
  rw [List.map_append, List.map_append, hf x]
end RW5
