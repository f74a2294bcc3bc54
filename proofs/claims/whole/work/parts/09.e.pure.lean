-- pure: one row of the state changes
theorem va_up_s {α : Type} {f : Nat → α} {k : Nat} {v : α} : va_up f k v k = v := va_up_self f k v
theorem va_up_n {α : Type} {f : Nat → α} {k j : Nat} {v : α} (h : j ≠ k) : va_up f k v j = f j := va_up_ne f v h
theorem RS.frame {σ : Nat → Nat → Int32} {N N' : Nat → Nat} (h : RS σ N) (hN : ∀ j, j < 99 → N' j = N j) : RS σ N' := by
  obtain ⟨h0, h1, h2, h3, h4, h5, h6, h7, h8, h9⟩ := h
  refine ⟨fun k hk => by rw [hN _ (by omega)]; exact h0 k hk, fun k hk => ?_, fun k hk => by rw [hN _ (by omega)]; exact h2 k hk, fun k hk => ?_, fun k hk => ?_, fun k hk => by rw [hN _ (by omega)]; exact h5 k hk, by rw [hN _ (by omega)]; exact h6, by rw [hN _ (by omega)]; exact h7, by rw [hN _ (by omega)]; exact h8, by rw [hN _ (by omega)]; exact h9⟩
  · have := dm_lt hk
    rw [hN _ (by omega)]; exact h1 k hk
  · have := wm_lt hk
    rw [hN _ (by omega)]; exact h3 k hk
  · have := wm_lt hk
    rw [hN _ (by omega)]; exact h4 k hk
/-- new drops, and nothing else -/
theorem RS.ofD {σ : Nat → Nat → Int32} {N N' : Nat → Nat} {d : Nat → Int32} (h : RS σ N) (hd : RD d N') (hN : ∀ j, j < 99 → (∀ k, k < 36 → dm k ≠ j) → N' j = N j) : RS (va_up σ 1 d) N' := by
  obtain ⟨h0, h1, h2, h3, h4, h5, h6, h7, h8, h9⟩ := h
  have o1 : ∀ j, j < 7 → N' j = N j := fun j hj => hN j (by omega) (fun k hk => by have := dm_lt hk; omega)
  have o2 : ∀ j, j < 99 → 51 ≤ j → N' j = N j := fun j hj hj2 => hN j hj (fun k hk => by have := dm_lt hk; omega)
  have o3 : ∀ k, k < 8 → N' (11 + 5 * k) = N (11 + 5 * k) := fun k hk => hN _ (by omega) (fun i hi => by unfold dm; split <;> omega)
  refine ⟨fun k hk => ?_, ?_, fun k hk => ?_, fun k hk => ?_, fun k hk => ?_, fun k hk => ?_, ?_, ?_, ?_, ?_⟩
  · rw [va_up_n (by omega), o1 _ (by omega)]; exact h0 k hk
  · rw [va_up_s]; exact hd
  · rw [va_up_n (by omega), o3 k hk]; exact h2 k hk
  · have := wm_lt hk
    rw [va_up_n (by omega), o2 _ (by omega) (by omega)]; exact h3 k hk
  · have := wm_lt hk
    rw [va_up_n (by omega), o2 _ (by omega) (by omega)]; exact h4 k hk
  · rw [va_up_n (by omega), o2 _ (by omega) (by omega)]; exact h5 k hk
  · rw [va_up_n (by omega), o1 _ (by omega)]; exact h6
  · rw [va_up_n (by omega), o1 _ (by omega)]; exact h7
  · rw [va_up_n (by omega), o1 _ (by omega)]; exact h8
  · rw [va_up_n (by omega), o1 _ (by omega)]; exact h9
/-- a number of the accounts -/
theorem RS.ofC {σ : Nat → Nat → Int32} {N : Nat → Nat} (h : RS σ N) (i j v : Nat) (hij : (i = 6 ∧ j = 2) ∨ (i = 7 ∧ j = 3) ∨ (i = 8 ∧ j = 4) ∨ (i = 9 ∧ j = 6)) : RS (va_up σ i (fun _ => nI v)) (upN N j v) := by
  obtain ⟨h0, h1, h2, h3, h4, h5, h6, h7, h8, h9⟩ := h
  refine ⟨fun k hk => ?_, fun k hk => ?_, fun k hk => ?_, fun k hk => ?_, fun k hk => ?_, fun k hk => ?_, ?_, ?_, ?_, ?_⟩
  · rw [va_up_n (by omega), upN_n (by omega)]; exact h0 k hk
  · have := dm_lt hk
    rw [va_up_n (by omega), upN_n (by omega)]; exact h1 k hk
  · rw [va_up_n (by omega), upN_n (by omega)]; exact h2 k hk
  · have := wm_lt hk
    rw [va_up_n (by omega), upN_n (by omega)]; exact h3 k hk
  · have := wm_lt hk
    rw [va_up_n (by omega), upN_n (by omega)]; exact h4 k hk
  · rw [va_up_n (by omega), upN_n (by omega)]; exact h5 k hk
  · rcases hij with ⟨rfl, rfl⟩ | ⟨rfl, rfl⟩ | ⟨rfl, rfl⟩ | ⟨rfl, rfl⟩ <;> first | (rw [va_up_s, upN_s]) | (rw [va_up_n (by omega), upN_n (by omega)]; assumption)
  · rcases hij with ⟨rfl, rfl⟩ | ⟨rfl, rfl⟩ | ⟨rfl, rfl⟩ | ⟨rfl, rfl⟩ <;> first | (rw [va_up_s, upN_s]) | (rw [va_up_n (by omega), upN_n (by omega)]; assumption)
  · rcases hij with ⟨rfl, rfl⟩ | ⟨rfl, rfl⟩ | ⟨rfl, rfl⟩ | ⟨rfl, rfl⟩ <;> first | (rw [va_up_s, upN_s]) | (rw [va_up_n (by omega), upN_n (by omega)]; assumption)
  · rcases hij with ⟨rfl, rfl⟩ | ⟨rfl, rfl⟩ | ⟨rfl, rfl⟩ | ⟨rfl, rfl⟩ <;> first | (rw [va_up_s, upN_s]) | (rw [va_up_n (by omega), upN_n (by omega)]; assumption)
/-- a number that only the model holds (all strokes) -/
theorem RS.of5 {σ : Nat → Nat → Int32} {N : Nat → Nat} (h : RS σ N) (v : Nat) : RS σ (upN N 5 v) := by
  obtain ⟨h0, h1, h2, h3, h4, h5, h6, h7, h8, h9⟩ := h
  refine ⟨fun k hk => ?_, fun k hk => ?_, fun k hk => ?_, fun k hk => ?_, fun k hk => ?_, fun k hk => ?_, ?_, ?_, ?_, ?_⟩
  · rw [upN_n (by omega)]; exact h0 k hk
  · have := dm_lt hk
    rw [upN_n (by omega)]; exact h1 k hk
  · rw [upN_n (by omega)]; exact h2 k hk
  · have := wm_lt hk
    rw [upN_n (by omega)]; exact h3 k hk
  · have := wm_lt hk
    rw [upN_n (by omega)]; exact h4 k hk
  · rw [upN_n (by omega)]; exact h5 k hk
  · rw [upN_n (by omega)]; exact h6
  · rw [upN_n (by omega)]; exact h7
  · rw [upN_n (by omega)]; exact h8
  · rw [upN_n (by omega)]; exact h9
theorem RS.of54 {σ : Nat → Nat → Int32} {N : Nat → Nat} (h : RS σ N) {P : Nat} (hP : P < 6) (v : Nat) : RS σ (upN N (54 + 8 * P) v) := by
  obtain ⟨h0, h1, h2, h3, h4, h5, h6, h7, h8, h9⟩ := h
  refine ⟨fun k hk => ?_, fun k hk => ?_, fun k hk => ?_, fun k hk => ?_, fun k hk => ?_, fun k hk => ?_, ?_, ?_, ?_, ?_⟩
  · rw [upN_n (by omega)]; exact h0 k hk
  · have := dm_lt hk
    rw [upN_n (by omega)]; exact h1 k hk
  · rw [upN_n (by omega)]; exact h2 k hk
  · rw [upN_n (by unfold wm; omega)]; exact h3 k hk
  · rw [upN_n (by unfold wm; omega)]; exact h4 k hk
  · rw [upN_n (by omega)]; exact h5 k hk
  · rw [upN_n (by omega)]; exact h6
  · rw [upN_n (by omega)]; exact h7
  · rw [upN_n (by omega)]; exact h8
  · rw [upN_n (by omega)]; exact h9
theorem RS.of0 {σ : Nat → Nat → Int32} {N : Nat → Nat} (h : RS σ N) {i : Nat} (hi : i < 2) (v : Nat) : RS (va_up σ 0 (upd (σ 0) i (nI v))) (upN N i v) := by
  obtain ⟨h0, h1, h2, h3, h4, h5, h6, h7, h8, h9⟩ := h
  refine ⟨fun k hk => ?_, fun k hk => ?_, fun k hk => ?_, fun k hk => ?_, fun k hk => ?_, fun k hk => ?_, ?_, ?_, ?_, ?_⟩
  · rw [va_up_s]
    by_cases e : k = i
    · rw [e, pk_us, upN_s]
    · rw [pk_un e, upN_n e]; exact h0 k hk
  · have := dm_lt hk
    rw [va_up_n (by omega), upN_n (by omega)]; exact h1 k hk
  · rw [va_up_n (by omega), upN_n (by omega)]; exact h2 k hk
  · have := wm_lt hk
    rw [va_up_n (by omega), upN_n (by omega)]; exact h3 k hk
  · have := wm_lt hk
    rw [va_up_n (by omega), upN_n (by omega)]; exact h4 k hk
  · rw [va_up_n (by omega), upN_n (by omega)]; exact h5 k hk
  · rw [va_up_n (by omega), upN_n (by omega)]; exact h6
  · rw [va_up_n (by omega), upN_n (by omega)]; exact h7
  · rw [va_up_n (by omega), upN_n (by omega)]; exact h8
  · rw [va_up_n (by omega), upN_n (by omega)]; exact h9
theorem RS.of2 {σ : Nat → Nat → Int32} {N : Nat → Nat} (h : RS σ N) {i : Nat} (hi : i < 8) (v : Nat) : RS (va_up σ 2 (upd (σ 2) i (nI v))) (upN N (11 + 5 * i) v) := by
  obtain ⟨h0, h1, h2, h3, h4, h5, h6, h7, h8, h9⟩ := h
  refine ⟨fun k hk => ?_, fun k hk => ?_, fun k hk => ?_, fun k hk => ?_, fun k hk => ?_, fun k hk => ?_, ?_, ?_, ?_, ?_⟩
  · rw [va_up_n (by omega), upN_n (by omega)]; exact h0 k hk
  · rw [va_up_n (by omega), upN_n (by unfold dm; split <;> omega)]; exact h1 k hk
  · rw [va_up_s]
    by_cases e : k = i
    · rw [e, pk_us, upN_s]
    · rw [pk_un e, upN_n (by omega)]; exact h2 k hk
  · have := wm_lt hk
    rw [va_up_n (by omega), upN_n (by omega)]; exact h3 k hk
  · have := wm_lt hk
    rw [va_up_n (by omega), upN_n (by omega)]; exact h4 k hk
  · rw [va_up_n (by omega), upN_n (by omega)]; exact h5 k hk
  · rw [va_up_n (by omega), upN_n (by omega)]; exact h6
  · rw [va_up_n (by omega), upN_n (by omega)]; exact h7
  · rw [va_up_n (by omega), upN_n (by omega)]; exact h8
  · rw [va_up_n (by omega), upN_n (by omega)]; exact h9
theorem RS.of3 {σ : Nat → Nat → Int32} {N : Nat → Nat} (h : RS σ N) {i : Nat} (hi : i < 18) (v : Nat) : RS (va_up σ 3 (upd (σ 3) i (nI v))) (upN N (wm i) v) := by
  obtain ⟨h0, h1, h2, h3, h4, h5, h6, h7, h8, h9⟩ := h
  have hw := wm_lt hi
  refine ⟨fun k hk => ?_, fun k hk => ?_, fun k hk => ?_, fun k hk => ?_, fun k hk => ?_, fun k hk => ?_, ?_, ?_, ?_, ?_⟩
  · rw [va_up_n (by omega), upN_n (by omega)]; exact h0 k hk
  · have := dm_lt hk
    rw [va_up_n (by omega), upN_n (by omega)]; exact h1 k hk
  · rw [va_up_n (by omega), upN_n (by omega)]; exact h2 k hk
  · rw [va_up_s]
    by_cases e : k = i
    · rw [e, pk_us, upN_s]
    · rw [pk_un e, upN_n (by unfold wm; omega)]; exact h3 k hk
  · rw [va_up_n (by omega), upN_n (by unfold wm; omega)]; exact h4 k hk
  · rw [va_up_n (by omega), upN_n (by unfold wm; omega)]; exact h5 k hk
  · rw [va_up_n (by omega), upN_n (by omega)]; exact h6
  · rw [va_up_n (by omega), upN_n (by omega)]; exact h7
  · rw [va_up_n (by omega), upN_n (by omega)]; exact h8
  · rw [va_up_n (by omega), upN_n (by omega)]; exact h9
theorem RS.of4 {σ : Nat → Nat → Int32} {N : Nat → Nat} (h : RS σ N) {i : Nat} (hi : i < 18) (v : Nat) : RS (va_up σ 4 (upd (σ 4) i (nI v))) (upN N (wm i + 4) v) := by
  obtain ⟨h0, h1, h2, h3, h4, h5, h6, h7, h8, h9⟩ := h
  have hw := wm_lt hi
  refine ⟨fun k hk => ?_, fun k hk => ?_, fun k hk => ?_, fun k hk => ?_, fun k hk => ?_, fun k hk => ?_, ?_, ?_, ?_, ?_⟩
  · rw [va_up_n (by omega), upN_n (by omega)]; exact h0 k hk
  · have := dm_lt hk
    rw [va_up_n (by omega), upN_n (by omega)]; exact h1 k hk
  · rw [va_up_n (by omega), upN_n (by omega)]; exact h2 k hk
  · rw [va_up_n (by omega), upN_n (by unfold wm; omega)]; exact h3 k hk
  · rw [va_up_s]
    by_cases e : k = i
    · rw [e, pk_us, upN_s]
    · rw [pk_un e, upN_n (by unfold wm; omega)]; exact h4 k hk
  · rw [va_up_n (by omega), upN_n (by unfold wm; omega)]; exact h5 k hk
  · rw [va_up_n (by omega), upN_n (by omega)]; exact h6
  · rw [va_up_n (by omega), upN_n (by omega)]; exact h7
  · rw [va_up_n (by omega), upN_n (by omega)]; exact h8
  · rw [va_up_n (by omega), upN_n (by omega)]; exact h9
theorem RS.ofS {σ : Nat → Nat → Int32} {N : Nat → Nat} (h : RS σ N) {i : Nat} (hi : i < 6) (v : Nat) : RS (va_up σ 5 (upd (σ 5) i (nI v))) (upN N (58 + 8 * i) v) := by
  obtain ⟨h0, h1, h2, h3, h4, h5, h6, h7, h8, h9⟩ := h
  refine ⟨fun k hk => ?_, fun k hk => ?_, fun k hk => ?_, fun k hk => ?_, fun k hk => ?_, fun k hk => ?_, ?_, ?_, ?_, ?_⟩
  · rw [va_up_n (by omega), upN_n (by omega)]; exact h0 k hk
  · have := dm_lt hk
    rw [va_up_n (by omega), upN_n (by omega)]; exact h1 k hk
  · rw [va_up_n (by omega), upN_n (by omega)]; exact h2 k hk
  · rw [va_up_n (by omega), upN_n (by unfold wm; omega)]; exact h3 k hk
  · rw [va_up_n (by omega), upN_n (by unfold wm; omega)]; exact h4 k hk
  · rw [va_up_s]
    by_cases e : k = i
    · rw [e, pk_us, upN_s]
    · rw [pk_un e, upN_n (by omega)]; exact h5 k hk
  · rw [va_up_n (by omega), upN_n (by omega)]; exact h6
  · rw [va_up_n (by omega), upN_n (by omega)]; exact h7
  · rw [va_up_n (by omega), upN_n (by omega)]; exact h8
  · rw [va_up_n (by omega), upN_n (by omega)]; exact h9
