-- pure: the best order
def lfn (r1 r2 r3 r4 r5 : Nat) (k : Nat) : Nat := if k = 0 then 0 else if k = 1 then r1 else if k = 2 then r2 else if k = 3 then r3 else if k = 4 then r4 else r5
def cin (l : Nat → Nat) (a : Nat) : Nat → Nat → List Nat → List Nat
  | 0, _, w => w
  | n + 1, p, w => cin l a n (p + 1) (if l p = l a then w ++ [p] else w)
def cfs (l : Nat → Nat) (a : Nat) : Nat → Nat → Bool
  | 0, _ => true
  | n + 1, j => if l j = l a then false else cfs l a n (j + 1)
def cou (l : Nat → Nat) : Nat → Nat → List Nat → List Nat
  | 0, _, w => w
  | n + 1, a, w => cou l n (a + 1) (if cfs l a a 0 = true then cin l a (n + 1) a w else w)
def nxn (M : Nat) (sel : Nat → Bool) : Nat → Option Nat → Option Nat
  | 0, acc => acc
  | n + 1, acc => nxn M sel n (if M.testBit n = false ∧ sel n = true then some n else acc)
def stp (l : Nat → Nat) (s : Nat × Nat) : Option (Nat × Nat) :=
  match nxn s.2 (fun i => decide (l i = l s.1)) 6 none with
  | some q => some (q, s.2 ||| 1 <<< q)
  | none => match nxn s.2 (fun _ => true) 6 none with
    | some q => some (q, s.2 ||| 1 <<< q)
    | none => none
def mst (l : Nat → Nat) : Nat → Option (Nat × Nat)
  | 0 => some (0, 1)
  | k + 1 => (mst l k).bind (stp l)
theorem ord_all : ∀ (r1 : Fin 2) (r2 : Fin 3) (r3 : Fin 4) (r4 : Fin 5) (r5 : Fin 6), List.map (fun k => (mst (lfn r1.val r2.val r3.val r4.val r5.val) k).map Prod.fst) [0, 1, 2, 3, 4, 5] = (cou (lfn r1.val r2.val r3.val r4.val r5.val) 6 0 []).map some := by decide +kernel
theorem ord_k {l : Nat → Nat} {W : List Nat} (h : List.map (fun k => (mst l k).map Prod.fst) [0, 1, 2, 3, 4, 5] = W.map some) : W.length = 6 ∧ ∀ k, k < 6 → ∃ v M, W[k]? = some v ∧ mst l k = some (v, M) := by
  have hl : W.length = 6 := by
    have e := congrArg List.length h
    rw [List.length_map, List.length_map] at e
    exact e.symm
  refine ⟨hl, fun k hk => ?_⟩
  have e := congrArg (fun L => L[k]?) h
  have hv : W[k]? = some (W[k]'(by omega)) := List.getElem?_eq_getElem (by omega)
  have e2 : (List.map some W)[k]? = some (some (W[k]'(by omega))) := by rw [List.getElem?_map, hv]; rfl
  have e3 : (mst l k).map Prod.fst = some (W[k]'(by omega)) := by
    have e4 : (List.map (fun k => (mst l k).map Prod.fst) [0, 1, 2, 3, 4, 5])[k]? = some ((mst l k).map Prod.fst) := by
      rw [List.getElem?_map]
      rcases (show k = 0 ∨ k = 1 ∨ k = 2 ∨ k = 3 ∨ k = 4 ∨ k = 5 by omega) with rfl | rfl | rfl | rfl | rfl | rfl <;> rfl
    have e5 := e4.symm.trans (e.trans e2)
    exact Option.some.inj e5
  cases hm : mst l k with
  | none => rw [hm] at e3; cases e3
  | some s =>
    rw [hm] at e3
    exact ⟨_, s.2, hv, by rw [← Option.some.inj e3]⟩
-- labels of an equality pattern
def fin0 (c : Nat → Int32) (v : Int32) : Nat → Nat → Nat
  | 0, j => j
  | n + 1, j => if c j = v then j else fin0 c v n (j + 1)
theorem fin0_ok (c : Nat → Int32) (v : Int32) : ∀ n j, j ≤ fin0 c v n j ∧ fin0 c v n j ≤ j + n ∧ (∀ k, j ≤ k → k < fin0 c v n j → ¬ c k = v) ∧ (fin0 c v n j < j + n → c (fin0 c v n j) = v)
  | 0, j => ⟨Nat.le_refl _, Nat.le_refl _, fun k h1 h2 => absurd h2 (by show ¬ k < j; omega), fun h => absurd h (by show ¬ j < j; omega)⟩
  | n + 1, j => by
    obtain ⟨a, b, d, e⟩ := fin0_ok c v n (j + 1)
    unfold fin0
    by_cases h : c j = v
    · rw [if_pos h]
      exact ⟨Nat.le_refl _, by omega, fun k h1 h2 => by omega, fun _ => h⟩
    · rw [if_neg h]
      refine ⟨by omega, by omega, fun k h1 h2 => ?_, fun q => e (by omega)⟩
      rcases Nat.eq_or_lt_of_le h1 with q | q
      · rw [← q]; exact h
      · exact d k q h2
def lbl (c : Nat → Int32) (i : Nat) : Nat := fin0 c (c i) i 0
theorem lbl_le (c : Nat → Int32) (i : Nat) : lbl c i ≤ i := by
  have h := (fin0_ok c (c i) i 0).2.1
  unfold lbl
  omega
theorem lbl_c (c : Nat → Int32) (i : Nat) : c (lbl c i) = c i := by
  obtain ⟨a, b, d, e⟩ := fin0_ok c (c i) i 0
  have hl := lbl_le c i
  rcases Nat.eq_or_lt_of_le hl with q | q
  · rw [q]
  · exact e (by unfold lbl at q; omega)
theorem lbl_m (c : Nat → Int32) (i k : Nat) (h : k < lbl c i) : ¬ c k = c i := (fin0_ok c (c i) i 0).2.2.1 k (Nat.zero_le k) h
theorem lbl_eq (c : Nat → Int32) (i j : Nat) : c i = c j ↔ lbl c i = lbl c j := by
  refine ⟨fun h => ?_, fun h => ?_⟩
  · rcases Nat.lt_trichotomy (lbl c i) (lbl c j) with q | q | q
    · exact absurd ((lbl_c c i).trans h) (lbl_m c j _ q)
    · exact q
    · exact absurd ((lbl_c c j).trans h.symm) (lbl_m c i _ q)
  · rw [← lbl_c c i, ← lbl_c c j, h]
def lbf (c : Nat → Int32) : Nat → Nat := lfn (lbl c 1) (lbl c 2) (lbl c 3) (lbl c 4) (lbl c 5)
theorem lbf_v (c : Nat → Int32) (i : Nat) (hi : i < 6) : lbf c i = lbl c i := by
  rcases (show i = 0 ∨ i = 1 ∨ i = 2 ∨ i = 3 ∨ i = 4 ∨ i = 5 by omega) with rfl | rfl | rfl | rfl | rfl | rfl
  · have := lbl_le c 0
    show 0 = lbl c 0
    omega
  all_goals rfl
theorem lbf_eq (c : Nat → Int32) (i j : Nat) (hi : i < 6) (hj : j < 6) : c i = c j ↔ lbf c i = lbf c j := by
  rw [lbf_v c i hi, lbf_v c j hj]
  exact lbl_eq c i j
theorem lbf_ord (c : Nat → Int32) : (cou (lbf c) 6 0 []).length = 6 ∧ ∀ k, k < 6 → ∃ v M, (cou (lbf c) 6 0 [])[k]? = some v ∧ mst (lbf c) k = some (v, M) := ord_k (ord_all ⟨lbl c 1, Nat.lt_succ_of_le (lbl_le c 1)⟩ ⟨lbl c 2, Nat.lt_succ_of_le (lbl_le c 2)⟩ ⟨lbl c 3, Nat.lt_succ_of_le (lbl_le c 3)⟩ ⟨lbl c 4, Nat.lt_succ_of_le (lbl_le c 4)⟩ ⟨lbl c 5, Nat.lt_succ_of_le (lbl_le c 5)⟩)
-- the other side
def OW (y : Nat → Int32) (w : List Nat) : Prop := ∀ k v, w[k]? = some v → y k = nI v
theorem OW.add {y : Nat → Int32} {w : List Nat} (h : OW y w) (p : Nat) : OW (upd y w.length (nI p)) (w ++ [p]) := by
  intro k v hk
  rcases Nat.lt_trichotomy k w.length with q | q | q
  · rw [List.getElem?_append_left q] at hk
    rw [pk_un (by omega)]
    exact h k v hk
  · rw [List.getElem?_append_right (by omega), q, Nat.sub_self] at hk
    rw [q, pk_us, show p = v from Option.some.inj hk]
  · rw [List.getElem?_append_right (by omega)] at hk
    obtain ⟨j, hj⟩ : ∃ j, k - w.length = j + 1 := ⟨k - w.length - 1, by omega⟩
    rw [hj] at hk
    simp at hk
theorem len1 (w : List Nat) (p : Nat) : (w ++ [p]).length = w.length + 1 := by simp
theorem cin_len (l : Nat → Nat) (a : Nat) : ∀ n p w, w.length ≤ (cin l a n p w).length
  | 0, _, _ => Nat.le_refl _
  | n + 1, p, w => by
    have h := cin_len l a n (p + 1) (if l p = l a then w ++ [p] else w)
    unfold cin
    refine Nat.le_trans ?_ h
    split
    · rw [len1]; omega
    · exact Nat.le_refl _
theorem cou_len (l : Nat → Nat) : ∀ n a w, w.length ≤ (cou l n a w).length
  | 0, _, _ => Nat.le_refl _
  | n + 1, a, w => by
    have h := cou_len l n (a + 1) (if cfs l a a 0 = true then cin l a (n + 1) a w else w)
    unfold cou
    refine Nat.le_trans ?_ h
    split
    · exact cin_len l a (n + 1) a w
    · exact Nat.le_refl _
theorem cIn_l {c : Nat → Int32} {l : Nat → Nat} {r : Int32 × (Nat → Int32)} {a : Nat} {kk : Int32 × (Nat → Int32) → Option (Int32 × (Nat → Int32) × (Nat → Int32))} (hr : ∀ k, k < 6 → r.2 k = c k) (hl : ∀ i j, i < 6 → j < 6 → (c i = c j ↔ l i = l j)) (ha : a < 6) (fu : Nat) : ∀ (n p : Nat) (y : Nat → Int32) (w : List Nat), p + n = 6 → OW y w → (cin l a n p w).length ≤ 6 → ∃ y', OW y' (cin l a n p w) ∧ s_X0_panelInOrder_L2 r (nI a) kk (fu + n + 1) (nI w.length, nI p, y) = kk (nI (cin l a n p w).length, y')
  | 0, p, y, w, h, hy, hb => by
    have e : p = 6 := by omega
    subst e
    refine ⟨y, hy, ?_⟩
    show s_X0_panelInOrder_B2 r _ kk _ _ (nI 6) y = _
    unfold s_X0_panelInOrder_B2
    rw [if_pos (show (6 : Int32) ≤ nI 6 from nI_le (a := 6) (b := 6) (by omega) (by omega))]
    rfl
  | n + 1, p, y, w, h, hy, hb => by
    have es : cin l a (n + 1) p w = cin l a n (p + 1) (if l p = l a then w ++ [p] else w) := rfl
    by_cases e : l p = l a
    · rw [if_pos e] at es
      rw [es] at hb ⊢
      have h1 := cin_len l a n (p + 1) (w ++ [p])
      rw [len1] at h1
      obtain ⟨y', hy', e'⟩ := cIn_l (kk := kk) hr hl ha fu n (p + 1) (upd y w.length (nI p)) (w ++ [p]) (by omega) (hy.add p) hb
      refine ⟨y', hy', Eq.trans ?_ e'⟩
      show s_X0_panelInOrder_B2 r (nI a) kk (s_X0_panelInOrder_L2 r (nI a) kk (fu + n + 1)) (nI w.length) (nI p) y = _
      unfold s_X0_panelInOrder_B2
      rw [if_neg (show ¬ (6 : Int32) ≤ nI p from nI_ge (a := p) (b := 6) (by omega) (by omega)), cl_e (at_n (by omega) (by omega)), cl_e (at_n (by omega) (by omega)), hr _ (by omega), hr _ (by omega), if_pos ((hl p a (by omega) ha).mpr e), cl_e (write_n (by omega) (by omega)), nm_e', nm_e', nI_1, nI_1, len1]
    · rw [if_neg e] at es
      rw [es] at hb ⊢
      obtain ⟨y', hy', e'⟩ := cIn_l (kk := kk) hr hl ha fu n (p + 1) y w (by omega) hy hb
      refine ⟨y', hy', Eq.trans ?_ e'⟩
      show s_X0_panelInOrder_B2 r (nI a) kk (s_X0_panelInOrder_L2 r (nI a) kk (fu + n + 1)) (nI w.length) (nI p) y = _
      unfold s_X0_panelInOrder_B2
      rw [if_neg (show ¬ (6 : Int32) ≤ nI p from nI_ge (a := p) (b := 6) (by omega) (by omega)), cl_e (at_n (by omega) (by omega)), cl_e (at_n (by omega) (by omega)), hr _ (by omega), hr _ (by omega), if_neg (fun q => e ((hl p a (by omega) ha).mp q)), nm_e', nI_1]
theorem cFs_l {c : Nat → Int32} {l : Nat → Nat} {r : Nat → Int32} {a : Nat} {kk : Unit → Option Int32} (hr : ∀ k, k < 6 → r k = c k) (hl : ∀ i j, i < 6 → j < 6 → (c i = c j ↔ l i = l j)) (ha : a < 6) (fu : Nat) : ∀ n j, j + n = a → s_X0_isFirstOfItsPot_L1 (nI a) r kk (fu + n + 1) (nI j) = if cfs l a n j = true then kk () else some 0
  | 0, j, h => by
    show s_X0_isFirstOfItsPot_B1 (nI a) r kk _ (nI j) = _
    unfold s_X0_isFirstOfItsPot_B1
    rw [if_pos (nI_le (by omega) (by omega))]
    rfl
  | n + 1, j, h => by
    show s_X0_isFirstOfItsPot_B1 (nI a) r kk (s_X0_isFirstOfItsPot_L1 (nI a) r kk (fu + n + 1)) (nI j) = _
    unfold s_X0_isFirstOfItsPot_B1
    rw [if_neg (show ¬ nI a ≤ nI j from nI_ge (by omega) (by omega)), cl_e (at_n (by omega) (by omega)), cl_e (at_n (by omega) (by omega)), hr _ (by omega), hr _ (by omega), show cfs l a (n + 1) j = if l j = l a then false else cfs l a n (j + 1) from rfl]
    by_cases e : l j = l a
    · rw [if_pos ((hl j a (by omega) ha).mpr e), if_pos e]
      rfl
    · rw [if_neg (fun q => e ((hl j a (by omega) ha).mp q)), if_neg e, nm_e', nI_1]
      exact cFs_l hr hl ha fu n (j + 1) (by omega)
theorem cFs {c : Nat → Int32} {l : Nat → Nat} {r : Nat → Int32} {a : Nat} (hr : ∀ k, k < 6 → r k = c k) (hl : ∀ i j, i < 6 → j < 6 → (c i = c j ↔ l i = l j)) (ha : a < 6) : s_X0_isFirstOfItsPot r (nI a) = some (if cfs l a a 0 = true then 1 else 0) := by
  have e := cFs_l (kk := s_X0_isFirstOfItsPot_X1) hr hl ha (999 - a) a 0 (by omega)
  rw [show 999 - a + a + 1 = 1000 by omega] at e
  refine Eq.trans e ?_
  split <;> rfl
theorem cOu_l {c : Nat → Int32} {l : Nat → Nat} {r : Int32 × (Nat → Int32)} {kk : (Nat → Int32) → Option (Int32 × (Nat → Int32) × (Nat → Int32))} (hr : ∀ k, k < 6 → r.2 k = c k) (hl : ∀ i j, i < 6 → j < 6 → (c i = c j ↔ l i = l j)) (fu : Nat) : ∀ (n a : Nat) (y : Nat → Int32) (w : List Nat), a + n = 6 → OW y w → (cou l n a w).length ≤ 6 → ∃ y', OW y' (cou l n a w) ∧ s_X0_panelInOrder_L1 r kk (fu + n + 1) (nI w.length, nI a, y) = kk y'
  | 0, a, y, w, h, hy, hb => by
    have e : a = 6 := by omega
    subst e
    refine ⟨y, hy, ?_⟩
    show s_X0_panelInOrder_B1 r kk _ _ (nI 6) y = _
    unfold s_X0_panelInOrder_B1
    rw [if_pos (show (6 : Int32) ≤ nI 6 from nI_le (a := 6) (b := 6) (by omega) (by omega))]
  | n + 1, a, y, w, h, hy, hb => by
    have es : cou l (n + 1) a w = cou l n (a + 1) (if cfs l a a 0 = true then cin l a (n + 1) a w else w) := rfl
    have ef := cFs hr hl (a := a) (by omega)
    by_cases e : cfs l a a 0 = true
    · rw [if_pos e] at es ef
      rw [es] at hb ⊢
      have h1 := cou_len l n (a + 1) (cin l a (n + 1) a w)
      obtain ⟨y1, hy1, e1⟩ := cIn_l (kk := s_X0_panelInOrder_X2 (s_X0_panelInOrder_L1 r kk (fu + n + 1)) (nI a)) hr hl (a := a) (by omega) (999 - (n + 1)) (n + 1) a y w (by omega) hy (by omega)
      rw [show 999 - (n + 1) + (n + 1) + 1 = 1000 by omega] at e1
      obtain ⟨y', hy', e'⟩ := cOu_l (kk := kk) hr hl fu n (a + 1) y1 (cin l a (n + 1) a w) (by omega) hy1 hb
      refine ⟨y', hy', Eq.trans ?_ e'⟩
      show s_X0_panelInOrder_B1 r kk (s_X0_panelInOrder_L1 r kk (fu + n + 1)) (nI w.length) (nI a) y = _
      unfold s_X0_panelInOrder_B1
      rw [if_neg (show ¬ (6 : Int32) ≤ nI a from nI_ge (a := a) (b := 6) (by omega) (by omega)), cl_e ef, if_neg one_ne, e1]
      unfold s_X0_panelInOrder_X2
      rw [nm_e', nI_1]
    · rw [if_neg e] at es ef
      rw [es] at hb ⊢
      obtain ⟨y', hy', e'⟩ := cOu_l (kk := kk) hr hl fu n (a + 1) y w (by omega) hy hb
      refine ⟨y', hy', Eq.trans ?_ e'⟩
      show s_X0_panelInOrder_B1 r kk (s_X0_panelInOrder_L1 r kk (fu + n + 1)) (nI w.length) (nI a) y = _
      unfold s_X0_panelInOrder_B1
      rw [if_neg (show ¬ (6 : Int32) ≤ nI a from nI_ge (a := a) (b := 6) (by omega) (by omega)), cl_e ef, if_pos rfl, nm_e', nI_1]
-- the model's side
def cod : Option Nat → Int32
  | none => -6
  | some k => nI k
theorem bit_k6 : ∀ M : Fin 64, ∀ k : Fin 6, (((nI M.val >>> (nI k.val &&& 31)) &&& 1) = 0 ↔ M.val.testBit k.val = false) := by decide +kernel
theorem bit_o6 : ∀ M : Fin 64, ∀ k : Fin 6, nI M.val ||| ((1 : Int32) <<< (nI k.val &&& 31)) = nI (M.val ||| 1 <<< k.val) ∧ (M.val ||| 1 <<< k.val) < 64 := by decide +kernel
theorem nxn_lt (M : Nat) (sel : Nat → Bool) {m : Nat} : ∀ n acc, n ≤ m → (∀ q, acc = some q → q < m) → ∀ q, nxn M sel n acc = some q → q < m
  | 0, _, _, ha, q, h => ha q h
  | n + 1, acc, hn, ha, q, h => by
    refine nxn_lt M sel n (if M.testBit n = false ∧ sel n = true then some n else acc) (by omega) (fun z hz => ?_) q h
    split at hz
    · have := Option.some.inj hz
      omega
    · exact ha z hz
theorem mNx_l {f : Nat → Int32} {N : Nat → Nat} {c M : Nat} {u2 : Int32} {sel : Nat → Bool} {kk : Int32 × (Nat → Int32) → Option (Int32 × (Nat → Int32))} (hf : RM f N) (I : Inv N c) (hM : M < 64) (hs : (u2 = -6 ∧ ∀ i, i < 6 → sel i = true) ∨ (¬ u2 = -6 ∧ ∀ i, i < 6 → (ch N i = u2 ↔ sel i = true))) (fu : Nat) : ∀ (n : Nat) (acc : Option Nat) (g : Nat → Int32), n ≤ 6 → ∃ g', s_X5_next_L1 (nI M) u2 f kk (fu + n + 1) (cod acc, nI n - 1, g) = kk (cod (nxn M sel n acc), g')
  | 0, acc, g, _ => by
    refine ⟨g, ?_⟩
    show s_X5_next_B1 (nI M) u2 f kk _ (cod acc) (nI 0 - 1) g = _
    unfold s_X5_next_B1
    rw [if_pos (show nI 0 - 1 < 0 by decide)]
    rfl
  | n + 1, acc, g, hn => by
    have es : nxn M sel (n + 1) acc = nxn M sel n (if M.testBit n = false ∧ sel n = true then some n else acc) := rfl
    have hb := bit_k6 ⟨M, hM⟩ ⟨n, by omega⟩
    have go : ∀ acc' g1, (if M.testBit n = false ∧ sel n = true then some n else acc) = acc' → s_X5_next_B1 (nI M) u2 f kk (s_X5_next_L1 (nI M) u2 f kk (fu + n + 1)) (cod acc) (nI n) g = s_X5_next_L1 (nI M) u2 f kk (fu + n + 1) (cod acc', nI n - 1, g1) → ∃ g', s_X5_next_L1 (nI M) u2 f kk (fu + (n + 1) + 1) (cod acc, nI (n + 1) - 1, g) = kk (cod (nxn M sel (n + 1) acc), g') := fun acc' g1 ea e1 => by
      obtain ⟨g', e'⟩ := mNx_l (kk := kk) hf I hM hs fu n acc' g1 (by omega)
      refine ⟨g', ?_⟩
      rw [nI_pred, es, ea]
      exact Eq.trans e1 e'
    by_cases ht : M.testBit n = false
    · rcases hs with ⟨u6, hs⟩ | ⟨u6, hs⟩
      · refine go (some n) g (if_pos ⟨ht, hs n (by omega)⟩) ?_
        unfold s_X5_next_B1
        rw [if_neg (nI_pos (by omega)), if_pos (hb.mpr ht), if_pos u6, nm_e', ← Int32.sub_eq_add_neg]
        rfl
      · obtain ⟨g1, e1⟩ := mNear hf I (P := n) (by omega) g
        by_cases hq : ch N n = u2
        · refine go (some n) g1 (if_pos ⟨ht, (hs n (by omega)).mp hq⟩) ?_
          unfold s_X5_next_B1
          rw [if_neg (nI_pos (by omega)), if_pos (hb.mpr ht), if_neg u6, cl_e e1, if_pos (show (near N n 8).1 = u2 from hq), nm_e', ← Int32.sub_eq_add_neg]
          rfl
        · refine go acc g1 (if_neg (fun q => hq ((hs n (by omega)).mpr q.2))) ?_
          unfold s_X5_next_B1
          rw [if_neg (nI_pos (by omega)), if_pos (hb.mpr ht), if_neg u6, cl_e e1, if_neg (show ¬ (near N n 8).1 = u2 from hq), nm_e', ← Int32.sub_eq_add_neg]
    · refine go acc g (if_neg (fun q => ht q.1)) ?_
      unfold s_X5_next_B1
      rw [if_neg (nI_pos (by omega)), if_neg (fun q => ht (hb.mp q)), nm_e', ← Int32.sub_eq_add_neg]
theorem mNx {f : Nat → Int32} {N : Nat → Nat} {c M : Nat} {u2 : Int32} {sel : Nat → Bool} (hf : RM f N) (I : Inv N c) (hM : M < 64) (hs : (u2 = -6 ∧ ∀ i, i < 6 → sel i = true) ∨ (¬ u2 = -6 ∧ ∀ i, i < 6 → (ch N i = u2 ↔ sel i = true))) (g : Nat → Int32) : ∃ g', s_X5_next f g (nI M) u2 = some (cod (nxn M sel 6 none), g') := by
  obtain ⟨g', e⟩ := mNx_l (kk := s_X5_next_X1) hf I hM hs 993 6 none g (by omega)
  exact ⟨g', e⟩
theorem mBO_l {f : Nat → Int32} {N : Nat → Nat} {c pl v M' : Nat} {kk : Int32 × (Nat → Int32) → Option (Int32 × (Nat → Int32))} (hf : RM f N) (I : Inv N c) (h0 : ¬ su (po N) 8 = 0) (hpl : pl < 6) (hv : mst (lbf (ch N)) pl = some (v, M')) (fu : Nat) : ∀ (n k p M : Nat) (g : Nat → Int32), k + n = pl → mst (lbf (ch N)) k = some (p, M) → p < 6 → M < 64 → ∃ g', s_X5_bestOrder_L1 (nI pl) f kk (fu + n + 1) (nI p, nI M, nI k, g) = kk (nI v, g')
  | 0, k, p, M, g, h, hk, hp, hM => by
    have e : k = pl := by omega
    subst e
    have e2 : p = v := by
      have q := Option.some.inj (hk.symm.trans hv)
      exact congrArg Prod.fst q
    subst e2
    refine ⟨g, ?_⟩
    show s_X5_bestOrder_B1 (nI k) f kk _ (nI p) (nI M) (nI k) g = _
    unfold s_X5_bestOrder_B1
    rw [if_pos (nI_le (Nat.le_refl _) (by omega))]
  | n + 1, k, p, M, g, h, hk, hp, hM => by
    have c6 : ¬ ch N p = -6 := fun q => h0 ((near_emp I (P := p) hp 8 (by omega)).1.mp q)
    obtain ⟨v1, M1, -, hk1⟩ := (lbf_ord (ch N)).2 (k + 1) (by omega)
    have es : stp (lbf (ch N)) (p, M) = some (v1, M1) := by
      have q : (mst (lbf (ch N)) k).bind (stp (lbf (ch N))) = some (v1, M1) := hk1
      rw [hk] at q
      exact q
    obtain ⟨g1, e1⟩ := mNear hf I (P := p) hp g
    obtain ⟨g2, e2⟩ := mNx (u2 := ch N p) (sel := fun i => decide (lbf (ch N) i = lbf (ch N) p)) hf I hM (Or.inr ⟨c6, fun i hi => (lbf_eq (ch N) i p hi hp).trans (by simp)⟩) g1
    obtain ⟨g3, e3⟩ := mNx (u2 := -6) (sel := fun _ => true) hf I hM (Or.inl ⟨rfl, fun _ _ => rfl⟩) g2
    have go : ∀ q g4, q < 6 → v1 = q → M1 = (M ||| 1 <<< q) → s_X5_bestOrder_B1 (nI pl) f kk (s_X5_bestOrder_L1 (nI pl) f kk (fu + n + 1)) (nI p) (nI M) (nI k) g = s_X5_bestOrder_L1 (nI pl) f kk (fu + n + 1) (nI q, nI M ||| ((1 : Int32) <<< (nI q &&& 31)), nI (k + 1), g4) → ∃ g', s_X5_bestOrder_L1 (nI pl) f kk (fu + (n + 1) + 1) (nI p, nI M, nI k, g) = kk (nI v, g') := fun q g4 hq ev eM e4 => by
      have hb := bit_o6 ⟨M, hM⟩ ⟨q, hq⟩
      subst ev
      subst eM
      obtain ⟨g', e'⟩ := mBO_l (kk := kk) hf I h0 hpl hv fu n (k + 1) v1 (M ||| 1 <<< v1) g4 (by omega) hk1 hq hb.2
      refine ⟨g', Eq.trans e4 ?_⟩
      rw [show nI M ||| ((1 : Int32) <<< (nI v1 &&& 31)) = nI (M ||| 1 <<< v1) from hb.1]
      exact e'
    unfold stp at es
    dsimp only at es
    cases hn : nxn M (fun i => decide (lbf (ch N) i = lbf (ch N) p)) 6 none with
    | some q =>
      rw [hn] at es e2
      have q6 : q < 6 := nxn_lt M _ 6 none (Nat.le_refl _) (fun z hz => by cases hz) q hn
      have eq2 := Option.some.inj es
      refine go q g2 q6 (congrArg Prod.fst eq2).symm (congrArg Prod.snd eq2).symm ?_
      have n6 : ¬ nI q = -6 := fun z => absurd (show nI q < 0 by rw [z]; decide) (nI_pos (by omega))
      unfold s_X5_bestOrder_B1
      rw [if_neg (show ¬ nI pl ≤ nI k from nI_ge (by omega) (by omega)), cl_e e1, cl_e (show s_X5_next f g1 (nI M) (near N p 8).1 = some (cod (some q), g2) from e2), if_neg (show ¬ cod (some q) = -6 from n6), nm_e', nm_e', nI_1]
      rfl
    | none =>
      rw [hn] at es e2
      dsimp only at es
      cases hn2 : nxn M (fun _ => true) 6 none with
      | none =>
        rw [hn2] at es
        cases es
      | some q =>
        rw [hn2] at es e3
        have q6 : q < 6 := nxn_lt M _ 6 none (Nat.le_refl _) (fun z hz => by cases hz) q hn2
        have eq2 := Option.some.inj es
        refine go q g3 q6 (congrArg Prod.fst eq2).symm (congrArg Prod.snd eq2).symm ?_
        unfold s_X5_bestOrder_B1
        rw [if_neg (show ¬ nI pl ≤ nI k from nI_ge (by omega) (by omega)), cl_e e1, cl_e (show s_X5_next f g1 (nI M) (near N p 8).1 = some (cod none, g2) from e2), if_pos (show cod none = -6 from rfl), cl_e e3, nm_e', nm_e', nI_1]
        rfl
theorem B_bestOrder {σ : Nat → Nat → Int32} {f : Nat → Int32} {N : Nat → Nat} {c : Nat} (h : RS σ N) (hf : RM f N) (I : Inv N c) (x : Int32) (r y g : Nat → Int32) : ∃ (v : Int32) (r' y' g' : Nat → Int32), s_X4_bestOrder (σ 1) (σ 3) r y x = some (v, r', y') ∧ s_X5_bestOrder f g x = some (v, g') := by
  unfold s_X4_bestOrder s_X5_bestOrder s_X0_panelInOrder
  rw [wi6]
  rcases in_cases x 0 5 with ⟨hx, -⟩ | ⟨hx, x1, x2⟩
  · exact ⟨-2, r, y, g, by rw [cl_e hx]; rfl, by rw [cl_e hx]; rfl⟩
  obtain ⟨P, -, hP, rfl⟩ := rng_n (a := 0) (b := 5) (by omega) (by omega) x1 x2
  have hPp : P < 6 := by omega
  obtain ⟨r', ec, hr⟩ := cChoose h.2.1 h.2.2.2.1 I r
  have hsu := su_le (g := po N) (b := 81) 8 (fun k hk => I.q (by omega))
  rw [cl_e hx, if_neg one_ne, cl_e hx, if_neg one_ne, cl_e ec, cl_e (mInP hf)]
  dsimp only
  by_cases e : su (po N) 8 = 0
  · exact ⟨-6, r', y, g, by rw [if_pos e, if_pos rfl, cl_s], by rw [e, if_pos nI_0]⟩
  · rw [if_neg e, if_neg one_ne, if_neg (nI_ne0 (by omega) (by omega))]
    obtain ⟨o6, ok⟩ := lbf_ord (ch N)
    obtain ⟨v, M', ev, em⟩ := ok P hPp
    have oy : OW y [] := fun k v hk => by simp at hk
    obtain ⟨y', hy', ey⟩ := cOu_l (c := ch N) (l := lbf (ch N)) (r := (1, r')) (kk := s_X0_panelInOrder_X1 (nI P) (1, r')) hr (lbf_eq (ch N)) 993 6 0 y [] (by omega) oy (by omega)
    obtain ⟨g', eg⟩ := mBO_l (kk := s_X5_bestOrder_X1) hf I e hPp em (999 - P) P 0 0 1 g (by omega) rfl (by omega) (by omega)
    rw [show 999 - P + P + 1 = 1000 by omega] at eg
    refine ⟨nI v, r', y', g', ?_, eg⟩
    have dd : s_X0_panelInOrder_L1 (1, r') (s_X0_panelInOrder_X1 (nI P) (1, r')) 1000 (0, 0, y) = some (nI v, r', y') := by
      refine Eq.trans ey ?_
      unfold s_X0_panelInOrder_X1
      rw [cl_e (at_n hPp (by omega)), hy' P v ev]
    rw [cl_e dd]
