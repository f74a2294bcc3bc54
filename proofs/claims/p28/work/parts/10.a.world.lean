-- the object as one thing: what it holds (Ab), the worlds that hold it (OKW), a call of its methods
abbrev Ab : Type := (Nat → Nat) × (Nat → Nat → Nat) × Nat × Option (Nat → Nat)
def GB (cI cS : ClassId) (a : Nat → Nat) (σ : Nat → Nat → Int32) (i5 i6 : Int32) (f11 f12 f13 f14 f15 : Nat → Int32) (p1 p2 : Int32) (f17 : Nat → Int32) (w0 w1 w2 w3 : Int32) (f19 : Nat → Int32) (f20 f21 : Nat → Option Nat) : va_W := [(a 0, .inr (4, [.ref (a 1), .ref (a 10), .ref (a 16), .ref (a 20), .ref (a 21), .int i5, .int i6])), (a 1, .inr (2, [.ref (a 2), .ref (a 3), .ref (a 4), .ref (a 5), .ref (a 6), .ref (a 7), .int (σ 6 0), .int (σ 7 0), .int (σ 8 0), .int (σ 9 0), .ref (a 8), .ref (a 9)])), (a 2, .inl (cI, 2, .inl (σ 0))), (a 3, .inl (cI, 36, .inl (σ 1))), (a 4, .inl (cI, 8, .inl (σ 2))), (a 5, .inl (cI, 18, .inl (σ 3))), (a 6, .inl (cI, 18, .inl (σ 4))), (a 7, .inl (cI, 6, .inl (σ 5))), (a 8, .inl (cI, 4, .inl (σ 10))), (a 9, .inl (cI, 4, .inl (σ 11))), (a 10, .inr (0, [.ref (a 1), .ref (a 11), .ref (a 12), .ref (a 13), .ref (a 14), .ref (a 15)])), (a 11, .inl (cI, 5, .inl f11)), (a 12, .inl (cI, 3, .inl f12)), (a 13, .inl (cI, 3, .inl f13)), (a 14, .inl (cI, 6, .inl f14)), (a 15, .inl (cI, 6, .inl f15)), (a 16, .inr (1, [.ref (a 17), .int p1, .int p2, .ref (a 18)])), (a 17, .inl (cI, 60, .inl f17)), (a 18, .inr (3, [.int w0, .int w1, .int w2, .int w3, .ref (a 19)])), (a 19, .inl (cI, 4, .inl f19)), (a 20, .inl (cS, 7, .inr (.inr (.inr (.inr f20))))), (a 21, .inl (cS, 2, .inr (.inr (.inr (.inr f21)))))]
def stu (cI : ClassId) (b : Nat → Nat) (x : Nat → Nat → Int32) : va_W := [(b 0, .inr (2, [.ref (b 1), .ref (b 2), .ref (b 3), .ref (b 4), .ref (b 5), .ref (b 6), .int (x 6 0), .int (x 7 0), .int (x 8 0), .int (x 9 0), .ref (b 7), .ref (b 8)])), (b 1, .inl (cI, 2, .inl (x 0))), (b 2, .inl (cI, 36, .inl (x 1))), (b 3, .inl (cI, 8, .inl (x 2))), (b 4, .inl (cI, 18, .inl (x 3))), (b 5, .inl (cI, 18, .inl (x 4))), (b 6, .inl (cI, 6, .inl (x 5))), (b 7, .inl (cI, 4, .inl (x 10))), (b 8, .inl (cI, 4, .inl (x 11)))]
def flt (pl : Nat → va_W) : List Nat → va_W
  | [] => []
  | p :: l => pl p ++ flt pl l
def PL (cI : ClassId) (pa : Nat → Nat → Nat) (f21 : Nat → Option Nat) (τ : Nat → Nat → Nat → Int32) (p : Nat) : va_W := if p < 7 then stu cI (pa p) (τ p) else if p = 7 then (if (f21 1).isSome = true then stu cI (pa p) (τ p) else []) else []
def L8 : List Nat := [0, 1, 2, 3, 4, 5, 6, 7]
theorem P_perm {D : va_G} {ws ws' : va_W} {H : Heap} (h : va_P D vwCl ws H) (p : ws.Perm ws') : va_P D vwCl ws' H := fun k q hk => by
  have h1 : q ∈ ws := p.mem_iff.mpr (List.mem_of_getElem? hk)
  obtain ⟨j, hj⟩ := List.mem_iff_getElem?.mp h1
  exact h j q hj
theorem D_pw {ws : va_W} (h : ∀ (i j : Nat) (p q : Nat × va_E), ws[i]? = some p → ws[j]? = some q → p.1 = q.1 → i = j) : ws.Pairwise (fun p q => p.1 ≠ q.1) := by
  rw [List.pairwise_iff_getElem]
  intro i j hi hj hij e
  have := h i j _ _ (List.getElem?_eq_getElem hi) (List.getElem?_eq_getElem hj) e
  omega
theorem D_pw' {ws : va_W} (h : ws.Pairwise (fun p q => p.1 ≠ q.1)) (i j : Nat) (p q : Nat × va_E) (hi : ws[i]? = some p) (hj : ws[j]? = some q) (e : p.1 = q.1) : i = j := by
  rw [List.pairwise_iff_getElem] at h
  obtain ⟨i1, i2⟩ := List.getElem?_eq_some_iff.mp hi
  obtain ⟨j1, j2⟩ := List.getElem?_eq_some_iff.mp hj
  rcases Nat.lt_trichotomy i j with z | z | z
  · exact absurd (by rw [i2, j2]; exact e) (h i j i1 j1 z)
  · exact z
  · exact absurd (by rw [i2, j2]; exact e.symm) (h j i j1 i1 z)
theorem D_perm {A : Nat → Prop} {ws ws' : va_W} (h : va_D A ws) (p : ws.Perm ws') : va_D A ws' := by
  refine ⟨D_pw' (p.pairwise (D_pw h.1) (fun z => Ne.symm z)), fun k q hk => ?_⟩
  have h1 : q ∈ ws := p.mem_iff.mpr (List.mem_of_getElem? hk)
  obtain ⟨j, hj⟩ := List.mem_iff_getElem?.mp h1
  exact h.2 j q hj
theorem flt_app (pl : Nat → va_W) : ∀ (l1 l2 : List Nat), flt pl (l1 ++ l2) = flt pl l1 ++ flt pl l2
  | [], _ => rfl
  | p :: l1, l2 => by
    show pl p ++ flt pl (l1 ++ l2) = (pl p ++ flt pl l1) ++ flt pl l2
    rw [flt_app pl l1 l2, List.append_assoc]
theorem flt_mid (pl : Nat → va_W) (l1 l2 : List Nat) (p : Nat) : (flt pl (l1 ++ p :: l2)).Perm (pl p ++ flt pl (l1 ++ l2)) := by
  rw [flt_app, flt_app]
  exact List.perm_append_comm_assoc _ _ _
theorem flt_congr {pl pl' : Nat → va_W} : ∀ {l : List Nat}, (∀ q, q ∈ l → pl' q = pl q) → flt pl' l = flt pl l
  | [], _ => rfl
  | p :: l, h => by
    show pl' p ++ flt pl' l = pl p ++ flt pl l
    rw [h p (List.mem_cons_self), flt_congr (fun q hq => h q (List.mem_cons_of_mem _ hq))]
theorem fl_sp {p : Nat} {l : List Nat} (hp : p ∈ l) (hn : l.Nodup) : ∃ l' : List Nat, p ∉ l' ∧ l'.Nodup ∧ (∀ q, q ∈ l → q ≠ p → q ∈ l') ∧ ∀ pl : Nat → va_W, (flt pl l).Perm (pl p ++ flt pl l') := by
  obtain ⟨l1, l2, rfl⟩ := List.append_of_mem hp
  have hn' : (p :: (l1 ++ l2)).Nodup := (List.perm_middle).nodup hn
  refine ⟨l1 ++ l2, (List.nodup_cons.mp hn').1, (List.nodup_cons.mp hn').2, fun q hq hne => ?_, fun pl => flt_mid pl l1 l2 p⟩
  rcases List.mem_append.mp hq with h | h
  · exact List.mem_append.mpr (Or.inl h)
  · rcases List.mem_cons.mp h with h | h
    · exact absurd h hne
    · exact List.mem_append.mpr (Or.inr h)
theorem L8_nd : L8.Nodup := by unfold L8; decide
theorem L8_mem {p : Nat} (h : p < 8) : p ∈ L8 := by
  unfold L8
  rcases (show p = 0 ∨ p = 1 ∨ p = 2 ∨ p = 3 ∨ p = 4 ∨ p = 5 ∨ p = 6 ∨ p = 7 by omega) with rfl | rfl | rfl | rfl | rfl | rfl | rfl | rfl <;> decide
theorem PL_lt {cI : ClassId} {pa : Nat → Nat → Nat} {f21 : Nat → Option Nat} {τ : Nat → Nat → Nat → Int32} {p : Nat} (h : p < 7) : PL cI pa f21 τ p = stu cI (pa p) (τ p) := if_pos h
theorem PL_sl {cI : ClassId} {pa : Nat → Nat → Nat} {f21 : Nat → Option Nat} {τ : Nat → Nat → Nat → Int32} {b : Nat} (h : f21 1 = some b) : PL cI pa f21 τ 7 = stu cI (pa 7) (τ 7) := by
  unfold PL
  rw [if_neg (by omega), if_pos rfl, h]
  rfl
theorem PL_no {cI : ClassId} {pa : Nat → Nat → Nat} {f21 : Nat → Option Nat} {τ : Nat → Nat → Nat → Int32} (h : f21 1 = none) : PL cI pa f21 τ 7 = [] := by
  unfold PL
  rw [if_neg (by omega), if_pos rfl, h]
  rfl
theorem PL_up {cI : ClassId} {pa : Nat → Nat → Nat} {f21 : Nat → Option Nat} {τ : Nat → Nat → Nat → Int32} {p q : Nat} {x : Nat → Nat → Int32} (h : q ≠ p) : PL cI pa f21 (upT τ p x) q = PL cI pa f21 τ q := by
  unfold PL
  rw [upT_n h]
theorem st7 {f20 : Nat → Option Nat} {ad : Nat → Nat} {np : Nat} (h : ∀ p, p < 7 → f20 p = some (ad p)) (hn : np < 7) : s_X4_studioAt 7 f20 (nI np) = some (some (ad np)) := by
  unfold s_X4_studioAt
  rw [if_neg (nI_pos (by omega)), if_pos (show nI np < Int32.ofNat 7 from nI_lt (b := 7) hn (by omega)), ldq_n hn (by omega), h np hn]
theorem st2 {f21 : Nat → Option Nat} {s : Nat} (hs : s < 2) : s_X4_studioAt 2 f21 (nI s) = some (f21 s) := by
  unfold s_X4_studioAt
  rw [if_neg (nI_pos (by omega)), if_pos (show nI s < Int32.ofNat 2 from nI_lt (b := 2) hs (by omega)), ldq_n hs (by omega)]
def RH (τ : Nat → Nat → Nat → Int32) (np : Nat) (x : Ab) : Prop := x.2.2.1 ≤ 6 ∧ ∀ j, j < x.2.2.1 → RS (τ ((np + 6 - j) % 7)) (x.2.1 j)
def RSl (τ : Nat → Nat → Nat → Int32) (f21 : Nat → Option Nat) (ad : Nat) (x : Ab) : Prop := (x.2.2.2 = none ∧ f21 1 = none) ∨ ∃ M : Nat → Nat, x.2.2.2 = some M ∧ f21 1 = some ad ∧ RS (τ 7) M
def OKW (cI cS : ClassId) (oa : Nat) (x : Ab) (w : va_W) : Prop := ∃ (a : Nat → Nat) (σ : Nat → Nat → Int32) (τ : Nat → Nat → Nat → Int32) (pa : Nat → Nat → Nat) (f20 f21 : Nat → Option Nat) (np : Nat) (f11 f12 f13 f14 f15 : Nat → Int32) (p1 p2 : Int32) (f17 : Nat → Int32) (w0 w1 w2 w3 : Int32) (f19 : Nat → Int32), a 0 = oa ∧ RS σ x.1 ∧ RH τ np x ∧ np < 7 ∧ (∀ p, p < 7 → f20 p = some (pa p 0)) ∧ RSl τ f21 (pa 7 0) x ∧ w.Perm (GB cI cS a σ (nI np) (nI x.2.2.1) f11 f12 f13 f14 f15 p1 p2 f17 w0 w1 w2 w3 f19 f20 f21 ++ flt (PL cI pa f21 τ) L8)
def WD (D : va_G) (cI cS : ClassId) (A : Nat → Prop) (oa : Nat) (x : Ab) (H : Heap) : Prop := ∃ w : va_W, OKW cI cS oa x w ∧ va_P D vwCl w H ∧ va_D A w
theorem W_at {D : va_G} {cI cS : ClassId} {A : Nat → Prop} {oa : Nat} {x : Ab} {H : Heap} {t : State} (ht : t.heap = H) (h : WD D cI cS A oa x H) : WD D cI cS A oa x t.heap := by rw [ht]; exact h
def KO (l : Launch) (D : va_G) (cI cZ cC cS : ClassId) (oa : Nat) (x x' : Ab) (y : MethodName) (ws : List Cond) (rm : Room) (As : List Value) (res : Int32) : Prop := ∀ w : va_W, OKW cI cS oa x w → ∃ (w0 w1 wc wd : va_W) (is : List Nat), w.Perm w0 ∧ is.map (fun i => w0[i]?) = wc.map some ∧ va_nd is = true ∧ wd.map Prod.fst = wc.map Prod.fst ∧ wset w0 is wd = w1 ∧ w1.map Prod.fst = w0.map Prod.fst ∧ OKW cI cS oa x' w1 ∧ (∃ (q0 : Nat) (fs : List Value), w0[q0]? = some (oa, .inr (4, fs))) ∧ ∀ sz : Nat, Met l y ws rm (va_Pc (.ref oa :: As) (PB D cI cZ cC cS wc sz)) (va_Qi (fun r (_ : Unit) => r = res) (fun _ t => va_P D vwCl wd t.heap) (va_A wc sz)) 0 0 (va_A wc sz)
-- the same where the call makes cells
def KOa (l : Launch) (D : va_G) (cI cZ cC cS : ClassId) (oa : Nat) (x x' : Ab) (y : MethodName) (ws : List Cond) (rm : Room) (As : List Value) (res : Int32) (mc ms : Nat) : Prop := ∀ w : va_W, OKW cI cS oa x w → ∃ (w0 wc : va_W) (w1 wd wn : (Nat → Nat) → va_W) (is : List Nat), w.Perm w0 ∧ is.map (fun i => w0[i]?) = wc.map some ∧ va_nd is = true ∧ (∀ z, (wd z).map Prod.fst = wc.map Prod.fst) ∧ (∀ z, wset w0 is (wd z) = w1 z) ∧ (∀ z, (w1 z).map Prod.fst = w0.map Prod.fst) ∧ (∀ z, OKW cI cS oa x' (w1 z ++ wn z)) ∧ (∃ (q0 : Nat) (fs : List Value), w0[q0]? = some (oa, .inr (4, fs))) ∧ ∀ sz : Nat, Met l y ws rm (va_Pc (.ref oa :: As) (PB D cI cZ cC cS wc sz)) (va_Qi (fun r (_ : Unit) => r = res) (fun _ t => ∃ z : Nat → Nat, va_P D vwCl (wd z ++ wn z) t.heap ∧ va_D (va_A wc sz) (wd z ++ wn z)) (va_A wc sz)) mc ms (va_A wc sz)
theorem P_nil {D : va_G} {H : Heap} : va_P D vwCl [] H := fun k q h => by simp at h
theorem D_nil {A : Nat → Prop} : va_D A [] := ⟨fun i j p q h => by simp at h, fun k q h => by simp at h⟩
section RWo
variable {p : Program} {l : Launch} {e : Env} {R : Room} {s : State} {m : MethodId} {args : Array Value} {below : List Frame} {meth : Method} {c : Code} {H : Heap} {locs : List Loc} {cells slots : Nat} {Q : State → Prop}
variable {cc : ByteArray} {pc : Nat} {ls : Array Slot} {As rest st0 : List Value} {D : va_G} {A : Nat → Prop} {H0 : Heap} {aa : Array Value} {cI cZ cC cS : ClassId} {ws ws' wc : va_W}
theorem D_join {A : Nat → Prop} {ws w1a wn wc : va_W} {H : Heap} (hP : va_P D vwCl ws H) (hD : va_D A ws) (hw : w1a.map Prod.fst = wc.map Prod.fst) (hD1 : va_D (va_A wc H.size) (w1a ++ wn)) (hA : ∀ q, va_A wc H.size q → A q) : va_D A (ws ++ wn) := by
  have hlen : w1a.length = wc.length := by
    have e2 := congrArg List.length hw
    simpa using e2
  have hwn : ∀ (k : Nat) (q : Nat × va_E), wn[k]? = some q → (w1a ++ wn)[w1a.length + k]? = some q := fun k q hk => by
    rw [List.getElem?_append_right (by omega)]
    rw [show w1a.length + k - w1a.length = k by omega]
    exact hk
  have hge : ∀ (k : Nat) (q : Nat × va_E), wn[k]? = some q → H.size ≤ q.1 := by
    intro k q hk
    rcases hD1.2 _ q (hwn k q hk) with ⟨j, e, hj⟩ | h
    · exfalso
      have hjl : j < wc.length := (List.getElem?_eq_some_iff.mp hj).1
      have h1 : (wc.map Prod.fst)[j]? = some q.1 := by rw [List.getElem?_map, hj]; rfl
      rw [← hw, List.getElem?_map] at h1
      cases hz : w1a[j]? with
      | none => rw [hz] at h1; cases h1
      | some z =>
        rw [hz] at h1
        have h2 : (w1a ++ wn)[j]? = some z := by rw [List.getElem?_append_left (by omega)]; exact hz
        have := hD1.1 _ _ _ _ h2 (hwn k q hk) (Option.some.inj h1)
        omega
    · exact h
  refine va_D.app hD ⟨fun i j p q hi hj hpq => ?_, fun k q hk => hA _ (hD1.2 _ q (hwn k q hk))⟩ (fun i j p q hi hj => ?_)
  · have := hD1.1 _ _ _ _ (hwn i p hi) (hwn j q hj) hpq
    omega
  · have h1 := (hP i p hi).lt
    have h2 := hge j q hj
    intro h
    rw [h] at h1
    omega
theorem call_ao {α : Type} {res : Int32} {mc ms : Nat} {ws' w1a wn : α → va_W} (hr : va_Run p l e R s m args below meth c H locs cells slots mc ms (F0 m pc ls st0) rest (va_Qi (fun r (_ : Unit) => r = res) (fun _ t => ∃ x : α, va_P D vwCl (w1a x ++ wn x) t.heap ∧ va_D (va_A wc H.size) (w1a x ++ wn x)) (va_A wc H.size) aa) (va_A wc H.size)) (hS : va_S A H0 H locs) (hP : va_P D vwCl ws H) (hD : va_D A ws) (hA : ∀ q, H0.size ≤ q → A q) (is : List Nat) (hC : is.map (fun i => ws[i]?) = wc.map some) (hw : ∀ x, (w1a x).map Prod.fst = wc.map Prod.fst) (he : ∀ x, wset ws is (w1a x) = ws' x) (hf : ∀ x, (ws' x).map Prod.fst = ws.map Prod.fst)
    (kk : ∀ (x : α) (H1 : Heap) (locs1 : List Loc), va_P D vwCl (ws' x ++ wn x) H1 → va_D A (ws' x ++ wn x) → va_S A H0 H1 locs1 → W p l e R s m args below meth c H1 locs1 (cells + mc) (slots + ms) Q (F0 m (pc + 3) ls (.int res :: rest))) : W p l e R s m args below meth c H locs cells slots Q (F0 m pc ls st0) := by
  have hF := A_free hD hS hA is hC
  refine va_calli hr hS (fun q _ h => hF q h) hF (fun r u t H1 locs1 ht _ hp hB _ hk hS1 => ?_)
  obtain ⟨x, hP1, hD1⟩ := hB
  subst hp; subst ht
  have hPa : va_P D vwCl (w1a x) t.heap := fun k q h => hP1 k q (by rw [List.getElem?_append_left (List.getElem?_eq_some_iff.mp h).1]; exact h)
  have hPn : va_P D vwCl (wn x) t.heap := fun k q h => hP1 ((w1a x).length + k) q (by rw [List.getElem?_append_right (by omega), show (w1a x).length + k - (w1a x).length = k by omega]; exact h)
  have h1 := P_join hP hD is hC (hw x) (he x) hk hPa
  have h2 := D_join hP hD (hw x) hD1 hF
  refine kk x _ _ (h1.app hPn) (D_fst h2 ?_) hS1
  rw [List.map_append, List.map_append, hf x]
theorem call_o {x x' : Ab} {oa n index maxL nL : Nat} {y : MethodName} {wy : List Cond} {rm : Room} {res : Int32} {bytes : ByteArray} {ret : Option FieldType} {own : String} {Ts : List Cond} (hk : KO l D cI cZ cC cS oa x x' y wy rm As res) (hKU : KU D cI cZ cC cS s) (hW : WD D cI cS A oa x H) (hS : va_S A H0 H locs) (hA : ∀ q, H0.size ≤ q → A q) (S : CallFix p m c cc nL s args Ts own) (cw : CallW R s args own RX4 index y bytes maxL ret wy rm 0 0 n) (hn : As.length = n) (hsize : ls.size = nL) (hst : st0 = As.reverse ++ .ref oa :: rest) (hlr : (rest.map fun v => v.category).sum ≤ 8) (hdg : decode cc pc = .ok (.invokevirtual index, 3)) (hf : cells + 0 ≤ R.cells ∧ slots + 0 ≤ R.slots)
    (kk : ∀ (H1 : Heap) (locs1 : List Loc), WD D cI cS A oa x' H1 → va_S A H0 H1 locs1 → W p l e R s m args below meth c H1 locs1 cells slots Q (F0 m (pc + 3) ls (.int res :: rest))) : W p l e R s m args below meth c H locs cells slots Q (F0 m pc ls st0) := by
  obtain ⟨w, hO, hP, hD⟩ := hW
  obtain ⟨w0, w1, wc, wd, is, pm, hC, hnd, hw, he, hf1, hO', ⟨q0, fs, hq0⟩, hM⟩ := hk w hO
  have hP0 := P_perm hP pm
  have hD0 := D_perm hD pm
  exact call_i (va_runV (As := As) (rest := rest) S (hM H.size) cw (PB.preV (ci := 4) (q0 := q0) hKU hP0 hD0 is hnd hC rfl hq0) rfl hn hsize hst (lv_room hlr) hdg hf) hS hP0 hD0 hA is hC hw he hf1 (fun H1 locs1 hP1 hD1 hS1 => kk H1 locs1 ⟨w1, hO', hP1, hD1⟩ hS1)
theorem call_oa {x x' : Ab} {oa n index maxL nL mc ms : Nat} {y : MethodName} {wy : List Cond} {rm : Room} {res : Int32} {bytes : ByteArray} {ret : Option FieldType} {own : String} {Ts : List Cond} (hk : KOa l D cI cZ cC cS oa x x' y wy rm As res mc ms) (hKU : KU D cI cZ cC cS s) (hW : WD D cI cS A oa x H) (hS : va_S A H0 H locs) (hA : ∀ q, H0.size ≤ q → A q) (S : CallFix p m c cc nL s args Ts own) (cw : CallW R s args own RX4 index y bytes maxL ret wy rm mc ms n) (hn : As.length = n) (hsize : ls.size = nL) (hst : st0 = As.reverse ++ .ref oa :: rest) (hlr : (rest.map fun v => v.category).sum ≤ 8) (hdg : decode cc pc = .ok (.invokevirtual index, 3)) (hf : cells + mc ≤ R.cells ∧ slots + ms ≤ R.slots)
    (kk : ∀ (H1 : Heap) (locs1 : List Loc), WD D cI cS A oa x' H1 → va_S A H0 H1 locs1 → W p l e R s m args below meth c H1 locs1 (cells + mc) (slots + ms) Q (F0 m (pc + 3) ls (.int res :: rest))) : W p l e R s m args below meth c H locs cells slots Q (F0 m pc ls st0) := by
  obtain ⟨w, hO, hP, hD⟩ := hW
  obtain ⟨w0, wc, w1, wd, wn, is, pm, hC, hnd, hw, he, hf1, hO', ⟨q0, fs, hq0⟩, hM⟩ := hk w hO
  have hP0 := P_perm hP pm
  have hD0 := D_perm hD pm
  exact call_ao (va_runV (As := As) (rest := rest) S (hM H.size) cw (PB.preV (ci := 4) (q0 := q0) hKU hP0 hD0 is hnd hC rfl hq0) rfl hn hsize hst (lv_room hlr) hdg hf) hS hP0 hD0 hA is hC hw he hf1 (fun z H1 locs1 hP1 hD1 hS1 => kk H1 locs1 ⟨w1 z ++ wn z, hO' z, hP1, hD1⟩ hS1)
theorem WD_free {w : va_W} (hD : va_D A w) (hS : va_S A H0 H locs) (hA : ∀ q, H0.size ≤ q → A q) : ∀ q, va_A w H.size q → A q := fun q h => by
  rcases h with ⟨k, e, hk⟩ | h
  · exact hD.2 k _ hk
  · exact hA q (Nat.le_trans hS.1 h)
theorem call_s {x x' : Ab} {oa n index maxL nL : Nat} {y : MethodName} {wy : List Cond} {rm : Room} {res : Int32} {bytes : ByteArray} {ret : Option FieldType} {own : String} {Ts : List Cond} {Pz : Prop} (hk : ∀ (w : va_W) (sz : Nat), OKW cI cS oa x w → Met l y wy rm (va_Pc (.ref oa :: As) (PB D cI cZ cC cS w sz)) (va_Qi (fun r (_ : Unit) => r = res ∧ Pz) (fun _ t => WD D cI cS (va_A w sz) oa x' t.heap) (va_A w sz)) 0 0 (va_A w sz)) (hKU : KU D cI cZ cC cS s) (hW : WD D cI cS A oa x H) (hS : va_S A H0 H locs) (hA : ∀ q, H0.size ≤ q → A q) (S : CallFix p m c cc nL s args Ts own) (cw : CallB R s args own index y bytes maxL ret wy rm 0 0 n ∧ (Cond.static y).before args s = true) (hn : As.length + 1 = n) (hsize : ls.size = nL) (hst : st0 = (.ref oa :: As).reverse ++ rest) (hlr : (rest.map fun v => v.category).sum ≤ 8) (hdg : decode cc pc = .ok (.invokestatic index, 3)) (hf : cells + 0 ≤ R.cells ∧ slots + 0 ≤ R.slots)
    (kk : ∀ (H1 : Heap) (locs1 : List Loc), WD D cI cS A oa x' H1 → va_S A H0 H1 locs1 → Pz → W p l e R s m args below meth c H1 locs1 cells slots Q (F0 m (pc + 3) ls (.int res :: rest))) : W p l e R s m args below meth c H locs cells slots Q (F0 m pc ls st0) := by
  obtain ⟨w, hO, hP, hD⟩ := hW
  have hF := WD_free hD hS hA
  refine va_calli (va_runS (As := .ref oa :: As) (rest := rest) S (hk w H.size hO) cw ⟨PB.blind, fun U hU hW1 => ⟨rfl, by rw [hU], by rw [hU]; exact hP, hD.weaken (fun _ _ _ _ => trivial), KU.warm hW1 hKU⟩⟩ rfl hn hsize hst (lv_room hlr) hdg hf) hS (fun q _ h => hF q h) hF (fun r u t H1 locs1 ht _ hp hB _ hk1 hS1 => ?_)
  obtain ⟨hp, hz⟩ := hp
  subst hp; subst ht
  obtain ⟨w', hO', hP', hD'⟩ := hB
  exact kk _ _ ⟨w', hO', hP', hD'.weaken (fun _ _ _ h => hF _ h)⟩ hS1 hz
theorem call_w {x : Ab} {oa : Nat} {res : Int32} {B : Unit → State → Prop} (hr : va_Run p l e R s m args below meth c H locs cells slots 0 0 (F0 m pc ls st0) rest (va_Qi (fun r (_ : Unit) => r = res) B (va_A [] H.size) aa) (va_A [] H.size)) (hW : WD D cI cS A oa x H) (hS : va_S A H0 H locs) (hA : ∀ q, H0.size ≤ q → A q)
    (kk : ∀ (H1 : Heap) (locs1 : List Loc), WD D cI cS A oa x H1 → va_S A H0 H1 locs1 → W p l e R s m args below meth c H1 locs1 cells slots Q (F0 m (pc + 3) ls (.int res :: rest))) : W p l e R s m args below meth c H locs cells slots Q (F0 m pc ls st0) := by
  have hF : ∀ q, va_A [] H.size q → A q := fun q h => by
    rcases h with ⟨k, e, hk⟩ | h
    · simp at hk
    · exact hA q (Nat.le_trans hS.1 h)
  obtain ⟨w, hO, hP, hD⟩ := hW
  refine va_calli hr hS (fun q _ h => hF q h) hF (fun r u t H1 locs1 ht _ hp hB _ hk1 hS1 => ?_)
  subst hp; subst ht
  refine kk _ _ ⟨w, hO, hP.kept (fun k q hk => ?_), hD⟩ hS1
  have hlt := (hP k q hk).lt
  refine hk1 q.1 hlt ?_
  rintro (⟨j, e, hj⟩ | hge)
  · simp at hj
  · exact absurd hlt (Nat.not_lt.mpr hge)
theorem ex_o {α β : Type} (K : α → Option β) (PH : α → Heap → Prop) (L : α → List (Nat × Value)) (nL pcx : Nat) (res : β) {H' : Heap} {locs' : List Loc} {g : JFrame}
    (hx : ∀ (x : α) (H : Heap) (locs : List Loc), K x = some res → PH x H → va_S A H0 H locs → ∀ ls : Array Slot, lv_has ls nL (L x) → W p l e R s m args below meth c H locs cells slots Q (F0 m pcx ls []))
    (k : (∀ (x : α) (H : Heap) (locs : List Loc), K x = some res → PH x H → va_S A H0 H locs → ∀ ls : Array Slot, lv_has ls nL (L x) → W p l e R s m args below meth c H locs cells slots Q (F0 m pcx ls [])) → W p l e R s m args below meth c H' locs' cells slots Q g) : W p l e R s m args below meth c H' locs' cells slots Q g := k hx
theorem lp_o {α β : Type} (F : Nat → α → Option β) (PH : α → Heap → Prop) (L : α → List (Nat × Value)) (nL : Nat) {pc : Nat} (res : β) (hz : ∀ x, F 0 x = none)
    (hs : ∀ n : Nat, (∀ (x : α) (H : Heap) (locs : List Loc), F n x = some res → PH x H → va_S A H0 H locs → ∀ ls : Array Slot, lv_has ls nL (L x) → W p l e R s m args below meth c H locs cells slots Q (F0 m pc ls [])) →
      ∀ (x : α) (H : Heap) (locs : List Loc), F (n + 1) x = some res → PH x H → va_S A H0 H locs → ∀ ls : Array Slot, lv_has ls nL (L x) → W p l e R s m args below meth c H locs cells slots Q (F0 m pc ls [])) :
    ∀ (n : Nat) (x : α) (H : Heap) (locs : List Loc), F n x = some res → PH x H → va_S A H0 H locs → ∀ ls : Array Slot, lv_has ls nL (L x) → W p l e R s m args below meth c H locs cells slots Q (F0 m pc ls []) := by
  intro n
  induction n with
  | zero =>
    intro x H locs h
    rw [hz] at h
    cases h
  | succ n ih => exact hs n ih
end RWo
