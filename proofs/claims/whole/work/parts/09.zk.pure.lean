-- the law's world
def GB (cI cZ cC cS : ClassId) (a : Nat → Nat) (σ : Nat → Nat → Int32) (i5 : Int32) (i6 : Int32) (f11 : Nat → Int32) (f12 : Nat → Int32) (f13 : Nat → Int32) (f14 : Nat → Int32) (f15 : Nat → Int32) (p1 : Int32) (p2 : Int32) (f17 : Nat → Int32) (w0 : Int32) (w1 : Int32) (w2 : Int32) (w3 : Int32) (f19 : Nat → Int32) (f20 : Nat → Option Nat) (f21 : Nat → Option Nat) (m9 : Int32) (m10 : Int32) (m11 : Int32) (m12 : Int32) (f23 : Nat → Int32) (f24 : Nat → Int32) (f25 : Nat → Int32) (f26 : Nat → Int32) (f27 : Nat → Int32) (f28 : Nat → Int32) (f29 : Nat → Int32) (f30 : Nat → Int32) (f31 : Nat → Int32) : va_W := [(a 0, .inr (4, [.ref (a 1), .ref (a 10), .ref (a 16), .ref (a 20), .ref (a 21), .int i5, .int i6])), (a 1, .inr (2, [.ref (a 2), .ref (a 3), .ref (a 4), .ref (a 5), .ref (a 6), .ref (a 7), .int (σ 6 0), .int (σ 7 0), .int (σ 8 0), .int (σ 9 0), .ref (a 8), .ref (a 9)])), (a 2, .inl (cI, 2, .inl (σ 0))), (a 3, .inl (cI, 36, .inl (σ 1))), (a 4, .inl (cI, 8, .inl (σ 2))), (a 5, .inl (cI, 18, .inl (σ 3))), (a 6, .inl (cI, 18, .inl (σ 4))), (a 7, .inl (cI, 6, .inl (σ 5))), (a 8, .inl (cI, 4, .inl (σ 10))), (a 9, .inl (cI, 4, .inl (σ 11))), (a 10, .inr (0, [.ref (a 1), .ref (a 11), .ref (a 12), .ref (a 13), .ref (a 14), .ref (a 15)])), (a 11, .inl (cI, 5, .inl f11)), (a 12, .inl (cI, 3, .inl f12)), (a 13, .inl (cI, 3, .inl f13)), (a 14, .inl (cI, 6, .inl f14)), (a 15, .inl (cI, 6, .inl f15)), (a 16, .inr (1, [.ref (a 17), .int p1, .int p2, .ref (a 18)])), (a 17, .inl (cI, 60, .inl f17)), (a 18, .inr (3, [.int w0, .int w1, .int w2, .int w3, .ref (a 19)])), (a 19, .inl (cI, 4, .inl f19)), (a 20, .inl (cS, 7, .inr (.inr (.inr (.inr f20))))), (a 21, .inl (cS, 2, .inr (.inr (.inr (.inr f21))))), (a 22, .inr (5, [.ref (a 23), .ref (a 24), .ref (a 25), .ref (a 26), .ref (a 27), .ref (a 28), .ref (a 29), .ref (a 30), .ref (a 31), .int m9, .int m10, .int m11, .int m12])), (a 23, .inl (cI, 99, .inl f23)), (a 24, .inl (cI, 99, .inl f24)), (a 25, .inl (cI, 594, .inl f25)), (a 26, .inl (cI, 198, .inl f26)), (a 27, .inl (cZ, 2, .inl f27)), (a 28, .inl (cI, 4, .inl f28)), (a 29, .inl (cI, 3, .inl f29)), (a 30, .inl (cI, 192, .inl f30)), (a 31, .inl (cC, 60, .inl f31))]
def stu (cI : ClassId) (b : Nat → Nat) (x : Nat → Nat → Int32) : va_W := [(b 0, .inr (2, [.ref (b 1), .ref (b 2), .ref (b 3), .ref (b 4), .ref (b 5), .ref (b 6), .int (x 6 0), .int (x 7 0), .int (x 8 0), .int (x 9 0), .ref (b 7), .ref (b 8)])), (b 1, .inl (cI, 2, .inl (x 0))), (b 2, .inl (cI, 36, .inl (x 1))), (b 3, .inl (cI, 8, .inl (x 2))), (b 4, .inl (cI, 18, .inl (x 3))), (b 5, .inl (cI, 18, .inl (x 4))), (b 6, .inl (cI, 6, .inl (x 5))), (b 7, .inl (cI, 4, .inl (x 10))), (b 8, .inl (cI, 4, .inl (x 11)))]
def flt (pl : Nat → va_W) : List Nat → va_W
  | [] => []
  | p :: l => pl p ++ flt pl l
def PL (cI : ClassId) (pa : Nat → Nat → Nat) (f21 : Nat → Option Nat) (τ : Nat → Nat → Nat → Int32) (p : Nat) : va_W := if p < 7 then stu cI (pa p) (τ p) else if (f21 (p - 7)).isSome = true then stu cI (pa p) (τ p) else []
def L9 : List Nat := [0, 1, 2, 3, 4, 5, 6, 7, 8]
theorem P_perm {D : va_G} {ws ws' : va_W} {H : Heap} (h : va_P D vwCl ws H) (p : ws.Perm ws') : va_P D vwCl ws' H := fun k q hk => by
  have h1 : q ∈ ws := p.mem_iff.mpr (List.mem_of_getElem? hk)
  obtain ⟨j, hj⟩ := List.mem_iff_getElem?.mp h1
  exact h j q hj
theorem D_pw {ws : va_W} (h : ∀ (i j : Nat) (p q : Nat × va_E), ws[i]? = some p → ws[j]? = some q → p.1 = q.1 → i = j) : ws.Pairwise (fun p q => p.1 ≠ q.1) := by
  rw [List.pairwise_iff_getElem]
  intro i j hi hj hij e
  have := h i j _ _ (List.getElem?_eq_getElem hi) (List.getElem?_eq_getElem hj) e
  omega
theorem D_pw' {ws : va_W} (h : ws.Pairwise (fun p q => p.1 ≠ q.1)) (i j : Nat) (p q : Nat × va_E) (hi : ws[i]? = some p) (hj : ws[j]? = some q) (e : p.1 = q.1) : i = j := by
  rw [List.pairwise_iff_getElem] at h
  obtain ⟨i1, i2⟩ := List.getElem?_eq_some_iff.mp hi
  obtain ⟨j1, j2⟩ := List.getElem?_eq_some_iff.mp hj
  rcases Nat.lt_trichotomy i j with z | z | z
  · exact absurd (by rw [i2, j2]; exact e) (h i j i1 j1 z)
  · exact z
  · exact absurd (by rw [i2, j2]; exact e.symm) (h j i j1 i1 z)
theorem D_perm {A : Nat → Prop} {ws ws' : va_W} (h : va_D A ws) (p : ws.Perm ws') : va_D A ws' := by
  refine ⟨D_pw' (p.pairwise (D_pw h.1) (fun z => Ne.symm z)), fun k q hk => ?_⟩
  have h1 : q ∈ ws := p.mem_iff.mpr (List.mem_of_getElem? hk)
  obtain ⟨j, hj⟩ := List.mem_iff_getElem?.mp h1
  exact h.2 j q hj
theorem flt_app (pl : Nat → va_W) : ∀ (l1 l2 : List Nat), flt pl (l1 ++ l2) = flt pl l1 ++ flt pl l2
  | [], _ => rfl
  | p :: l1, l2 => by
    show pl p ++ flt pl (l1 ++ l2) = (pl p ++ flt pl l1) ++ flt pl l2
    rw [flt_app pl l1 l2, List.append_assoc]
theorem flt_mid (pl : Nat → va_W) (l1 l2 : List Nat) (p : Nat) : (flt pl (l1 ++ p :: l2)).Perm (pl p ++ flt pl (l1 ++ l2)) := by
  rw [flt_app, flt_app]
  exact List.perm_append_comm_assoc _ _ _
theorem flt_congr {pl pl' : Nat → va_W} : ∀ {l : List Nat}, (∀ q, q ∈ l → pl' q = pl q) → flt pl' l = flt pl l
  | [], _ => rfl
  | p :: l, h => by
    show pl' p ++ flt pl' l = pl p ++ flt pl l
    rw [h p (List.mem_cons_self), flt_congr (fun q hq => h q (List.mem_cons_of_mem _ hq))]
theorem fl_sp {p : Nat} {l : List Nat} (hp : p ∈ l) (hn : l.Nodup) : ∃ l' : List Nat, p ∉ l' ∧ l'.Nodup ∧ (∀ q, q ∈ l → q ≠ p → q ∈ l') ∧ ∀ pl : Nat → va_W, (flt pl l).Perm (pl p ++ flt pl l') := by
  obtain ⟨l1, l2, rfl⟩ := List.append_of_mem hp
  have hn' : (p :: (l1 ++ l2)).Nodup := (List.perm_middle).nodup hn
  refine ⟨l1 ++ l2, (List.nodup_cons.mp hn').1, (List.nodup_cons.mp hn').2, fun q hq hne => ?_, fun pl => flt_mid pl l1 l2 p⟩
  rcases List.mem_append.mp hq with h | h
  · exact List.mem_append.mpr (Or.inl h)
  · rcases List.mem_cons.mp h with h | h
    · exact absurd h hne
    · exact List.mem_append.mpr (Or.inr h)
theorem L9_nd : L9.Nodup := by unfold L9; decide
theorem L9_mem {p : Nat} (h : p < 9) : p ∈ L9 := by
  unfold L9
  rcases (show p = 0 ∨ p = 1 ∨ p = 2 ∨ p = 3 ∨ p = 4 ∨ p = 5 ∨ p = 6 ∨ p = 7 ∨ p = 8 by omega) with rfl | rfl | rfl | rfl | rfl | rfl | rfl | rfl | rfl <;> decide
theorem PL_lt {cI : ClassId} {pa : Nat → Nat → Nat} {f21 : Nat → Option Nat} {τ : Nat → Nat → Nat → Int32} {p : Nat} (h : p < 7) : PL cI pa f21 τ p = stu cI (pa p) (τ p) := if_pos h
theorem PL_sl {cI : ClassId} {pa : Nat → Nat → Nat} {f21 : Nat → Option Nat} {τ : Nat → Nat → Nat → Int32} {s b : Nat} (h : f21 s = some b) : PL cI pa f21 τ (7 + s) = stu cI (pa (7 + s)) (τ (7 + s)) := by
  unfold PL
  rw [if_neg (by omega), Nat.add_sub_cancel_left, h]
  rfl
theorem PL_no {cI : ClassId} {pa : Nat → Nat → Nat} {f21 : Nat → Option Nat} {τ : Nat → Nat → Nat → Int32} {s : Nat} (h : f21 s = none) : PL cI pa f21 τ (7 + s) = [] := by
  unfold PL
  rw [if_neg (by omega), Nat.add_sub_cancel_left, h]
  rfl
theorem PL_up {cI : ClassId} {pa : Nat → Nat → Nat} {f21 : Nat → Option Nat} {τ : Nat → Nat → Nat → Int32} {p q : Nat} {x : Nat → Nat → Int32} (h : q ≠ p) : PL cI pa f21 (upT τ p x) q = PL cI pa f21 τ q := by
  unfold PL
  rw [upT_n h]
theorem st7 {f20 : Nat → Option Nat} {ad : Nat → Nat} {np : Nat} (h : ∀ p, p < 7 → f20 p = some (ad p)) (hn : np < 7) : s_X4_studioAt 7 f20 (nI np) = some (some (ad np)) := by
  unfold s_X4_studioAt
  rw [if_neg (nI_pos (by omega)), if_pos (show nI np < Int32.ofNat 7 from nI_lt (b := 7) hn (by omega)), ldq_n hn (by omega), h np hn]
theorem st2 {f21 : Nat → Option Nat} {s : Nat} (hs : s < 2) : s_X4_studioAt 2 f21 (nI s) = some (f21 s) := by
  unfold s_X4_studioAt
  rw [if_neg (nI_pos (by omega)), if_pos (show nI s < Int32.ofNat 2 from nI_lt (b := 2) hs (by omega)), ldq_n hs (by omega)]
def LI (D : va_G) (cI cZ cC cS : ClassId) (a : Nat → Nat) (s : State) (cn : Nat) (H : Heap) (locs : List Loc) : Prop := ∃ (σ : Nat → Nat → Int32) (τ : Nat → Nat → Nat → Int32) (pa : Nat → Nat → Nat) (f20 : Nat → Option Nat) (f21 : Nat → Option Nat) (N : Nat → Nat) (t : Nat → Nat) (np : Nat) (kp : Nat) (Lp : Nat) (f11 : Nat → Int32) (f12 : Nat → Int32) (f13 : Nat → Int32) (f14 : Nat → Int32) (f15 : Nat → Int32) (p2 : Int32) (f17 : Nat → Int32) (w0 : Int32) (w1 : Int32) (w2 : Int32) (w3 : Int32) (f19 : Nat → Int32) (m11 : Int32) (m12 : Int32) (f23 : Nat → Int32) (f24 : Nat → Int32) (f25 : Nat → Int32) (f26 : Nat → Int32) (f27 : Nat → Int32) (f28 : Nat → Int32) (f29 : Nat → Int32) (f30 : Nat → Int32) (f31 : Nat → Int32), RS σ N ∧ RM f23 N ∧ Inv N cn ∧ RG τ f25 np kp cn ∧ np < 7 ∧ kp ≤ 6 ∧ (∀ p, p < 7 → f20 p = some (pa p 0)) ∧ SL τ f26 f27 f21 (fun p => pa p 0) cn ∧ RT f17 f31 t ∧ Lp ≤ 60 ∧ va_P D vwCl (GB cI cZ cC cS a σ (nI np) (nI kp) f11 f12 f13 f14 f15 (nI Lp) p2 f17 w0 w1 w2 w3 f19 f20 f21 (nI Lp) (nI kp) m11 m12 f23 f24 f25 f26 f27 f28 f29 f30 f31 ++ flt (PL cI pa f21 τ) L9) H ∧ va_D (fun q : Nat => s.heap.size ≤ q) (GB cI cZ cC cS a σ (nI np) (nI kp) f11 f12 f13 f14 f15 (nI Lp) p2 f17 w0 w1 w2 w3 f19 f20 f21 (nI Lp) (nI kp) m11 m12 f23 f24 f25 f26 f27 f28 f29 f30 f31 ++ flt (PL cI pa f21 τ) L9) ∧ va_S (fun q : Nat => s.heap.size ≤ q) s.heap H locs
