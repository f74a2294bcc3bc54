-- the nearest pots and the orders
def mkW (W : List Nat) : Nat → Nat
  | 0 => 0
  | k + 1 => mkW W k ||| (1 <<< W.getD k 0)
def bsW (l : Nat → Nat) (W : List Nat) : Nat → Nat
  | 0 => 0
  | k + 1 => bsW l W k + (if k = 0 then 0 else if l (W.getD k 0) = l (W.getD (k - 1) 0) then 0 else 1)
def rsL (l : Nat → Nat) : Nat → Nat
  | 0 => 0
  | k + 1 => rsL l k + (if k = 0 then 0 else if l k = l (k - 1) then 0 else 1)
def rgL (l : Nat → Nat) (P : Nat) : Nat → Nat
  | 0 => 0
  | k + 1 => rgL l P k + (if l ((P + (k + 1)) % 6) = l ((P + k) % 6) then 0 else 1)
def okW (l : Nat → Nat) : Bool := List.all [0, 1, 2, 3, 4, 5] (fun k => decide ((cou l 6 0 []).getD k 0 < 6) && decide (mkW (cou l 6 0 []) k < 64)) && decide ((cou l 6 0 []).getD 0 0 = 0) && decide (mkW (cou l 6 0 []) 6 = 63) && List.all [0, 1, 2, 3, 4, 5] (fun P => decide (bsW l (cou l 6 0 []) 6 ≤ rgL l P 5)) && decide (rsL l 6 = rgL l 0 5)
theorem okW_all : ∀ (r1 : Fin 2) (r2 : Fin 3) (r3 : Fin 4) (r4 : Fin 5) (r5 : Fin 6), okW (lfn r1.val r2.val r3.val r4.val r5.val) = true := by decide +kernel
theorem okW_c (c : Nat → Int32) : okW (lbf c) = true := okW_all ⟨lbl c 1, Nat.lt_succ_of_le (lbl_le c 1)⟩ ⟨lbl c 2, Nat.lt_succ_of_le (lbl_le c 2)⟩ ⟨lbl c 3, Nat.lt_succ_of_le (lbl_le c 3)⟩ ⟨lbl c 4, Nat.lt_succ_of_le (lbl_le c 4)⟩ ⟨lbl c 5, Nat.lt_succ_of_le (lbl_le c 5)⟩
theorem all6 {f : Nat → Bool} (h : List.all [0, 1, 2, 3, 4, 5] f = true) {k : Nat} (hk : k < 6) : f k = true := by
  rw [List.all_eq_true] at h
  apply h
  rcases (show k = 0 ∨ k = 1 ∨ k = 2 ∨ k = 3 ∨ k = 4 ∨ k = 5 by omega) with rfl | rfl | rfl | rfl | rfl | rfl <;> decide
theorem okW_f {l : Nat → Nat} (h : okW l = true) : (∀ k, k < 6 → (cou l 6 0 []).getD k 0 < 6 ∧ mkW (cou l 6 0 []) k < 64) ∧ (cou l 6 0 []).getD 0 0 = 0 ∧ mkW (cou l 6 0 []) 6 = 63 ∧ (∀ P, P < 6 → bsW l (cou l 6 0 []) 6 ≤ rgL l P 5) ∧ rsL l 6 = rgL l 0 5 := by
  unfold okW at h
  rw [Bool.and_eq_true, Bool.and_eq_true, Bool.and_eq_true, Bool.and_eq_true] at h
  obtain ⟨⟨⟨⟨h1, h2⟩, h3⟩, h4⟩, h5⟩ := h
  refine ⟨fun k hk => ?_, of_decide_eq_true h2, of_decide_eq_true h3, fun P hP => of_decide_eq_true (all6 h4 hP), of_decide_eq_true h5⟩
  have := all6 h1 hk
  rw [Bool.and_eq_true] at this
  exact ⟨of_decide_eq_true this.1, of_decide_eq_true this.2⟩
