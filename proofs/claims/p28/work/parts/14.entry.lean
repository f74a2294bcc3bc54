-- the law from its entry
set_option maxRecDepth 20000 in
theorem NL_in : ∀ w ∈ NL, w ∈ lw_tbl := List.forall_mem_cons.mpr ⟨List.mem_of_getElem? (i := 39) (by decide +kernel), List.forall_mem_cons.mpr ⟨List.mem_of_getElem? (i := 121) (by decide +kernel), List.forall_mem_cons.mpr ⟨List.mem_of_getElem? (i := 189) (by decide +kernel), List.forall_mem_cons.mpr ⟨List.mem_of_getElem? (i := 202) (by decide +kernel), List.forall_mem_cons.mpr ⟨List.mem_of_getElem? (i := 234) (by decide +kernel), List.forall_mem_cons.mpr ⟨List.mem_of_getElem? (i := 241) (by decide +kernel), List.forall_mem_cons.mpr ⟨List.mem_of_getElem? (i := 256) (by decide +kernel), List.forall_mem_cons.mpr ⟨List.mem_of_getElem? (i := 340) (by decide +kernel), List.forall_mem_cons.mpr ⟨List.mem_of_getElem? (i := 351) (by decide +kernel), List.forall_mem_cons.mpr ⟨List.mem_of_getElem? (i := 352) (by decide +kernel), List.forall_mem_cons.mpr ⟨List.mem_of_getElem? (i := 420) (by decide +kernel), List.forall_mem_cons.mpr ⟨List.mem_of_getElem? (i := 449) (by decide +kernel), fun _ h => absurd h List.not_mem_nil⟩⟩⟩⟩⟩⟩⟩⟩⟩⟩⟩⟩
theorem hi_tX0 : ∀ w ∈ u_ws RX0 TX0 6, w ∈ lw_tbl := fun w hw => inX0 w ((by decide +kernel : ∀ w ∈ u_ws RX0 TX0 6, w ∈ wsX00) w hw)
theorem hi_tX1 : ∀ w ∈ u_ws RX1 TX1 4, w ∈ lw_tbl := fun w hw => inX1 w ((by decide +kernel : ∀ w ∈ u_ws RX1 TX1 4, w ∈ wsX10) w hw)
theorem hi_tX2 : ∀ w ∈ u_ws RX2 TX2 12, w ∈ lw_tbl := fun w hw => inX2 w ((by decide +kernel : ∀ w ∈ u_ws RX2 TX2 12, w ∈ wsX20) w hw)
theorem hi_tX3 : ∀ w ∈ u_ws RX3 TX3 5, w ∈ lw_tbl := fun w hw => inX3 w ((by decide +kernel : ∀ w ∈ u_ws RX3 TX3 5, w ∈ wsX30) w hw)
theorem hi_tX4 : ∀ w ∈ u_ws RX4 TX4 7, w ∈ lw_tbl := fun w hw => inX4 w ((by decide +kernel : ∀ w ∈ u_ws RX4 TX4 7, w ∈ wsX40) w hw)
set_option maxRecDepth 20000 in
theorem hm_a0 : (.arrayClass .int : Cond) ∈ lw_tbl := List.mem_of_getElem? (i := 79) (by decide +kernel)
set_option maxRecDepth 20000 in
theorem hm_ao : (.arrayOver (.object RX2) : Cond) ∈ lw_tbl := List.mem_of_getElem? (i := 151) (by decide +kernel)
set_option maxRecDepth 20000 in
theorem hm_i0 : (.instantiable RX0 6 : Cond) ∈ lw_tbl := List.mem_of_getElem? (i := 81) (by decide +kernel)
set_option maxRecDepth 20000 in
theorem hm_i1 : (.instantiable RX1 4 : Cond) ∈ lw_tbl := List.mem_of_getElem? (i := 106) (by decide +kernel)
set_option maxRecDepth 20000 in
theorem hm_i2 : (.instantiable RX2 12 : Cond) ∈ lw_tbl := List.mem_of_getElem? (i := 34) (by decide +kernel)
set_option maxRecDepth 20000 in
theorem hm_i3 : (.instantiable RX3 5 : Cond) ∈ lw_tbl := List.mem_of_getElem? (i := 112) (by decide +kernel)
set_option maxRecDepth 20000 in
theorem hm_i4 : (.instantiable RX4 7 : Cond) ∈ lw_tbl := List.mem_of_getElem? (i := 26) (by decide +kernel)
set_option maxRecDepth 20000 in
theorem hm_n4 : (.initialized RX4 : Cond) ∈ lw_tbl := List.mem_of_getElem? (i := 18) (by decide +kernel)
set_option maxRecDepth 20000 in
theorem hm_l4 : (.classLink RL 10 RX4 : Cond) ∈ lw_tbl := List.mem_of_getElem? (i := 25) (by decide +kernel)
set_option maxRecDepth 20000 in
theorem hm_m4 : (.methodLink RL 73 yX4_init : Cond) ∈ lw_tbl := List.mem_of_getElem? (i := 27) (by decide +kernel)
set_option maxRecDepth 20000 in
theorem hm_s4 : (.instanceMethod yX4_init : Cond) ∈ lw_tbl := List.mem_of_getElem? (i := 28) (by decide +kernel)
theorem entry_KU {args : Array Value} {s : State} (hts : ∀ w ∈ lw_tbl, w.before args s = true) : ∃ (D : va_G) (cI cZ cC cS : ClassId), KU D cI cZ cC cS s := by
  obtain ⟨c0, iS0, hKn0⟩ := u_known (C := RX0) (T := TX0) (N := 6) (n := 6) hts hi_tX0 (hts _ hm_i0)
  obtain ⟨c1, iS1, hKn1⟩ := u_known (C := RX1) (T := TX1) (N := 4) (n := 4) hts hi_tX1 (hts _ hm_i1)
  obtain ⟨c2, iS2, hKn2⟩ := u_known (C := RX2) (T := TX2) (N := 12) (n := 12) hts hi_tX2 (hts _ hm_i2)
  obtain ⟨c3, iS3, hKn3⟩ := u_known (C := RX3) (T := TX3) (N := 5) (n := 5) hts hi_tX3 (hts _ hm_i3)
  obtain ⟨c4, iS4, hKn4⟩ := u_known (C := RX4) (T := TX4) (N := 7) (n := 7) hts hi_tX4 (hts _ hm_i4)
  obtain ⟨dC, dI, hKc⟩ : ∃ (dC : Nat → ClassId) (dI : Nat → Nat → Nat), ∀ (k : Nat) (q : vw_C), vwCl[k]? = some q → u_Kn s q.1 q.2.1 q.2.2 (dC k) (dI k) := by
    refine ⟨fun k => if k = 0 then c0 else if k = 1 then c1 else if k = 2 then c2 else if k = 3 then c3 else c4, fun k => if k = 0 then iS0 else if k = 1 then iS1 else if k = 2 then iS2 else if k = 3 then iS3 else iS4, ?_⟩
    intro k q hq
    match k, hq with
    | 0, hq => cases hq; exact hKn0
    | 1, hq => cases hq; exact hKn1
    | 2, hq => cases hq; exact hKn2
    | 3, hq => cases hq; exact hKn3
    | 4, hq => cases hq; exact hKn4
    | k + 5, hq => simp [vwCl] at hq
  obtain ⟨cI, kI, pI, i1, i2, i3⟩ := Cond.arrayClass_spec (hts _ hm_a0)
  obtain ⟨comp, cS, kS, s1, -, s2, s3, s4⟩ := Cond.arrayOver_spec (n := RX2) (hts _ hm_ao)
  refine ⟨(dC, dI), cI, cI, cI, cS, ⟨hKc, ?_⟩, va_AO.of (hts _ hm_ao), fun w hw => va_Nw.of (NL_tab w hw) (hts w (NL_in w hw))⟩
  intro k q hq
  match k, hq with
  | 0, hq => cases hq; exact ⟨fun n z => ⟨fun k h => (by cases h), kI, i2, pI, i3⟩, i1⟩
  | 1, hq => cases hq; exact ⟨fun n z => ⟨fun k h => (by cases h), kI, i2, pI, i3⟩, i1⟩
  | 2, hq => cases hq; exact ⟨fun n z => ⟨fun k h => (by cases h), kI, i2, pI, i3⟩, i1⟩
  | 3, hq => cases hq; exact ⟨fun n z => ⟨fun k h => (by cases h), kS, s2, comp, s3⟩, kS, comp, s2, s3, s1, s4⟩
  | k + 4, hq => simp at hq
def S0 : Nat → Int32 := upd (upd (fun _ => 0) 0 3) 1 15
theorem S0_v : ∀ k, S0 k = nI (N0 k) := fun k => by
  unfold S0 N0
  by_cases h1 : k = 1
  · subst h1; rw [pk_us]; rfl
  · rw [pk_un h1]
    by_cases h0 : k = 0
    · subst h0; rw [pk_us]; rfl
    · rw [pk_un h0, if_neg h0, if_neg h1]
      rfl
theorem init2 : s_X2_init = some S0 := by
  unfold s_X2_init S0
  rw [cl_e (show s_X4_write 2 (fun _ => 0) 0 3 = some (upd (fun _ => 0) 0 3) from write_n (a := 0) (n := 2) (by omega) (by omega)), cl_e (show s_X4_write 2 (upd (fun _ => 0) 0 3) 1 15 = some (upd (upd (fun _ => 0) 0 3) 1 15) from write_n (a := 1) (n := 2) (by omega) (by omega))]
theorem cBeg_s {y : Nat → Int32} {i fu : Nat} {kk : (Nat → Int32) → Option (Int32 × Int32 × Int32 × Int32 × (Nat → Int32))} (hi : i < 4) : s_X3_begin_L1 kk (fu + 1) (nI i, y) = s_X3_begin_L1 kk fu (nI (i + 1), upd y i 0) := by
  show s_X3_begin_B1 kk (s_X3_begin_L1 kk fu) (nI i) y = _
  unfold s_X3_begin_B1
  rw [if_neg (show ¬ (4 : Int32) ≤ nI i from nI_ge (a := i) (b := 4) (by omega) (by omega)), cl_e (write_n hi (by omega)), nm_e', nI_1]
theorem cBeg (f3 : Nat → Int32) (a b : Int32) : ∃ z : Nat → Int32, s_X3_begin f3 a b = some (a, b, 0, 0, z) ∧ ∀ k, k < 4 → z k = 0 := by
  refine ⟨upd (upd (upd (upd f3 0 0) 1 0) 2 0) 3 0, ?_, fun k hk => ?_⟩
  · unfold s_X3_begin
    refine (cBeg_s (fu := 999) (i := 0) (by omega)).trans ?_
    refine (cBeg_s (fu := 998) (i := 1) (by omega)).trans ?_
    refine (cBeg_s (fu := 997) (i := 2) (by omega)).trans ?_
    refine (cBeg_s (fu := 996) (i := 3) (by omega)).trans ?_
    show s_X3_begin_B1 _ _ (nI 4) _ = _
    unfold s_X3_begin_B1 s_X3_begin_X1
    rw [if_pos (show (4 : Int32) ≤ nI 4 by decide)]
  · rcases (show k = 0 ∨ k = 1 ∨ k = 2 ∨ k = 3 by omega) with rfl | rfl | rfl | rfl
    · rw [pk_un (by omega), pk_un (by omega), pk_un (by omega), pk_us]
    · rw [pk_un (by omega), pk_un (by omega), pk_us]
    · rw [pk_un (by omega), pk_us]
    · rw [pk_us]
theorem init4 : ∃ r, s_X4_init = some r ∧ r.1 = S0 := by
  obtain ⟨z, hz, -⟩ := cBeg (fun _ => 0) 0 0
  refine ⟨(S0, 0, 0, 0, 0, z, S0, S0, S0, S0, S0, S0, S0), ?_, rfl⟩
  unfold s_X4_init s_X0_init s_X1_init s_X3_init
  rw [cl_e init2, cl_s, cl_e hz, cl_s, cl_s, cl_e init2, cl_e init2, cl_e init2, cl_e init2, cl_e init2, cl_e init2, cl_e init2]
def σ0 : Nat → Nat → Int32 := fun j => if j = 0 then S0 else fun _ => 0
theorem RS0 : RS σ0 N0 := by
  refine ⟨fun k _ => S0_v k, fun k hk => ?_, fun k hk => ?_, fun k hk => ?_, fun k hk => ?_, fun k hk => ?_, ?_, ?_, ?_, ?_⟩
  · rw [N0_z (by have := (dm_lt hk).2; omega)]; rfl
  · rw [N0_z (by omega)]; rfl
  · rw [N0_z (by have := (wm_lt hk).2; omega)]; rfl
  · rw [N0_z (by have := (wm_lt hk).2; omega)]; rfl
  · rw [N0_z (by omega)]; rfl
  · rw [N0_z (by omega)]; rfl
  · rw [N0_z (by omega)]; rfl
  · rw [N0_z (by omega)]; rfl
  · rw [N0_z (by omega)]; rfl
set_option maxHeartbeats 16000000 in
set_option maxRecDepth 100000 in
theorem whole_start {p : Program} {e : Env} {s : State} {m : MethodId} {below : List Frame} {meth : Method} {c : Code} (l : Launch) (hflags : l.flags = flags0) {b L : Nat} {xs : Nat → Int32} (hL : L ≤ 260) (C0 : lw_At p s m meth c b L xs) : W p l e room_1 s m #[Value.ref b] below meth c s.heap [] 0 0 (lw_Z below #[Value.ref b] s) (entryFrame m ([Value.ref b] : List Value).toArray 5) := by
  obtain ⟨hx, hb0, hr, hml, hown0, htb, hX, hbl, hlocks, hgv⟩ := id C0
  have hb : c.code = cL_law := hb0
  have hown : s.vm.findClass RL = some m.cls := hown0
  have hts : ∀ w ∈ wsL_law, w.before #[Value.ref b] s = true := fun w hw => htb w (wsL_law_in w hw)
  have hA : ∀ q : Nat, s.heap.size ≤ q → (fun q : Nat => s.heap.size ≤ q) q := fun _ h => h
  obtain ⟨D, cI, cZ, cC, cS, hKU⟩ := entry_KU htb
  have hK := hKU.1
  obtain ⟨r4, hr4, hr40⟩ := init4
  have hS : va_S (fun q : Nat => s.heap.size ≤ q) s.heap s.heap [] := va_S.rf
  have hP : va_P D vwCl [] s.heap := fun k q h => by simp at h
  have hD : va_D (fun q : Nat => s.heap.size ≤ q) [] := ⟨fun i j p q h => by simp at h, fun k q h => by simp at h⟩
  have hl := lv_entry ([.ref b]) (n := 5) (Nat.le_of_ble_eq_true rfl)
  rw [lg_entry_eq]
  generalize (lg_sl ([.ref b]) ++ List.replicate (5 - (lg_sl ([.ref b])).length) Slot.unset).toArray = ls at hl ⊢
  have hl : lv_has ls 5 [(0, .ref b)] := hl
  refine va_new (ci := 4) (fs := [.null, .null, .null, .null, .null, .int 0, .int 0]) (C := RX4) (T := TX4) (N := 7) hx hb htb hi_tX4 tyX4 tyX4_ok hown (htb _ hm_l4) (htb _ hm_i4) (htb _ hm_n4) hK hP hD hS hA rfl (fun j hj => by rcases (show j = 0 ∨ j = 1 ∨ j = 2 ∨ j = 3 ∨ j = 4 ∨ j = 5 ∨ j = 6 by omega) with rfl | rfl | rfl | rfl | rfl | rfl | rfl <;> rfl) (Nat.le_of_ble_eq_true rfl) (Nat.le_of_ble_eq_true rfl) dL_law_0 (fun z0 H hP hD hS => ?_)
  have hP : va_P D vwCl [(z0, .inr (4, [.null, .null, .null, .null, .null, .int 0, .int 0]))] H := hP
  have hD : va_D (fun q : Nat => s.heap.size ≤ q) [(z0, .inr (4, [.null, .null, .null, .null, .null, .int 0, .int 0]))] := hD
  refine W.widen (k := 1) (n := 7) (Nat.le_of_ble_eq_true rfl) (Nat.le_of_ble_eq_true rfl) ?_
  refine lv_dup hx hb dL_law_3 rfl ?_
  refine call_a (wr := []) (w1 := fun (bz : Nat → Nat) => [(z0, .inr (4, [.ref (bz 0), .ref (bz 9), .ref (bz 15), .ref (bz 19), .ref (bz 83), .int 0, .int 0])), ((bz 0), .inr (2, [.ref (bz 1), .ref (bz 2), .ref (bz 3), .ref (bz 4), .ref (bz 5), .ref (bz 6), .int 0, .int 0, .int 0, .int 0, .ref (bz 7), .ref (bz 8)])), ((bz 1), .inl (cI, 2, .inl r4.1)), ((bz 2), .inl (cI, 36, .inl (fun _ => 0))), ((bz 3), .inl (cI, 8, .inl (fun _ => 0))), ((bz 4), .inl (cI, 18, .inl (fun _ => 0))), ((bz 5), .inl (cI, 18, .inl (fun _ => 0))), ((bz 6), .inl (cI, 6, .inl (fun _ => 0))), ((bz 7), .inl (cI, 4, .inl (fun _ => 0))), ((bz 8), .inl (cI, 4, .inl (fun _ => 0))), ((bz 9), .inr (0, [.ref (bz 0), .ref (bz 10), .ref (bz 11), .ref (bz 12), .ref (bz 13), .ref (bz 14)])), ((bz 10), .inl (cI, 5, .inl (fun _ => 0))), ((bz 11), .inl (cI, 3, .inl (fun _ => 0))), ((bz 12), .inl (cI, 3, .inl (fun _ => 0))), ((bz 13), .inl (cI, 6, .inl (fun _ => 0))), ((bz 14), .inl (cI, 6, .inl (fun _ => 0))), ((bz 15), .inr (1, [.ref (bz 16), .int 0, .int 0, .ref (bz 17)])), ((bz 16), .inl (cI, 60, .inl (fun _ => 0))), ((bz 17), .inr (3, [.int r4.2.1, .int r4.2.2.1, .int r4.2.2.2.1, .int r4.2.2.2.2.1, .ref (bz 18)])), ((bz 18), .inl (cI, 4, .inl r4.2.2.2.2.2.1)), ((bz 19), .inl (cS, 7, .inr (.inr (.inr (.inr (va_up (va_up (va_up (va_up (va_up (va_up (va_up (fun _ => none) 0 (some (bz 20))) 1 (some (bz 29))) 2 (some (bz 38))) 3 (some (bz 47))) 4 (some (bz 56))) 5 (some (bz 65))) 6 (some (bz 74)))))))), ((bz 20), .inr (2, [.ref (bz 21), .ref (bz 22), .ref (bz 23), .ref (bz 24), .ref (bz 25), .ref (bz 26), .int 0, .int 0, .int 0, .int 0, .ref (bz 27), .ref (bz 28)])), ((bz 21), .inl (cI, 2, .inl r4.2.2.2.2.2.2.1)), ((bz 22), .inl (cI, 36, .inl (fun _ => 0))), ((bz 23), .inl (cI, 8, .inl (fun _ => 0))), ((bz 24), .inl (cI, 18, .inl (fun _ => 0))), ((bz 25), .inl (cI, 18, .inl (fun _ => 0))), ((bz 26), .inl (cI, 6, .inl (fun _ => 0))), ((bz 27), .inl (cI, 4, .inl (fun _ => 0))), ((bz 28), .inl (cI, 4, .inl (fun _ => 0))), ((bz 29), .inr (2, [.ref (bz 30), .ref (bz 31), .ref (bz 32), .ref (bz 33), .ref (bz 34), .ref (bz 35), .int 0, .int 0, .int 0, .int 0, .ref (bz 36), .ref (bz 37)])), ((bz 30), .inl (cI, 2, .inl r4.2.2.2.2.2.2.2.1)), ((bz 31), .inl (cI, 36, .inl (fun _ => 0))), ((bz 32), .inl (cI, 8, .inl (fun _ => 0))), ((bz 33), .inl (cI, 18, .inl (fun _ => 0))), ((bz 34), .inl (cI, 18, .inl (fun _ => 0))), ((bz 35), .inl (cI, 6, .inl (fun _ => 0))), ((bz 36), .inl (cI, 4, .inl (fun _ => 0))), ((bz 37), .inl (cI, 4, .inl (fun _ => 0))), ((bz 38), .inr (2, [.ref (bz 39), .ref (bz 40), .ref (bz 41), .ref (bz 42), .ref (bz 43), .ref (bz 44), .int 0, .int 0, .int 0, .int 0, .ref (bz 45), .ref (bz 46)])), ((bz 39), .inl (cI, 2, .inl r4.2.2.2.2.2.2.2.2.1)), ((bz 40), .inl (cI, 36, .inl (fun _ => 0))), ((bz 41), .inl (cI, 8, .inl (fun _ => 0))), ((bz 42), .inl (cI, 18, .inl (fun _ => 0))), ((bz 43), .inl (cI, 18, .inl (fun _ => 0))), ((bz 44), .inl (cI, 6, .inl (fun _ => 0))), ((bz 45), .inl (cI, 4, .inl (fun _ => 0))), ((bz 46), .inl (cI, 4, .inl (fun _ => 0))), ((bz 47), .inr (2, [.ref (bz 48), .ref (bz 49), .ref (bz 50), .ref (bz 51), .ref (bz 52), .ref (bz 53), .int 0, .int 0, .int 0, .int 0, .ref (bz 54), .ref (bz 55)])), ((bz 48), .inl (cI, 2, .inl r4.2.2.2.2.2.2.2.2.2.1)), ((bz 49), .inl (cI, 36, .inl (fun _ => 0))), ((bz 50), .inl (cI, 8, .inl (fun _ => 0))), ((bz 51), .inl (cI, 18, .inl (fun _ => 0))), ((bz 52), .inl (cI, 18, .inl (fun _ => 0))), ((bz 53), .inl (cI, 6, .inl (fun _ => 0))), ((bz 54), .inl (cI, 4, .inl (fun _ => 0))), ((bz 55), .inl (cI, 4, .inl (fun _ => 0))), ((bz 56), .inr (2, [.ref (bz 57), .ref (bz 58), .ref (bz 59), .ref (bz 60), .ref (bz 61), .ref (bz 62), .int 0, .int 0, .int 0, .int 0, .ref (bz 63), .ref (bz 64)])), ((bz 57), .inl (cI, 2, .inl r4.2.2.2.2.2.2.2.2.2.2.1)), ((bz 58), .inl (cI, 36, .inl (fun _ => 0))), ((bz 59), .inl (cI, 8, .inl (fun _ => 0))), ((bz 60), .inl (cI, 18, .inl (fun _ => 0))), ((bz 61), .inl (cI, 18, .inl (fun _ => 0))), ((bz 62), .inl (cI, 6, .inl (fun _ => 0))), ((bz 63), .inl (cI, 4, .inl (fun _ => 0))), ((bz 64), .inl (cI, 4, .inl (fun _ => 0))), ((bz 65), .inr (2, [.ref (bz 66), .ref (bz 67), .ref (bz 68), .ref (bz 69), .ref (bz 70), .ref (bz 71), .int 0, .int 0, .int 0, .int 0, .ref (bz 72), .ref (bz 73)])), ((bz 66), .inl (cI, 2, .inl r4.2.2.2.2.2.2.2.2.2.2.2.1)), ((bz 67), .inl (cI, 36, .inl (fun _ => 0))), ((bz 68), .inl (cI, 8, .inl (fun _ => 0))), ((bz 69), .inl (cI, 18, .inl (fun _ => 0))), ((bz 70), .inl (cI, 18, .inl (fun _ => 0))), ((bz 71), .inl (cI, 6, .inl (fun _ => 0))), ((bz 72), .inl (cI, 4, .inl (fun _ => 0))), ((bz 73), .inl (cI, 4, .inl (fun _ => 0))), ((bz 74), .inr (2, [.ref (bz 75), .ref (bz 76), .ref (bz 77), .ref (bz 78), .ref (bz 79), .ref (bz 80), .int 0, .int 0, .int 0, .int 0, .ref (bz 81), .ref (bz 82)])), ((bz 75), .inl (cI, 2, .inl r4.2.2.2.2.2.2.2.2.2.2.2.2)), ((bz 76), .inl (cI, 36, .inl (fun _ => 0))), ((bz 77), .inl (cI, 8, .inl (fun _ => 0))), ((bz 78), .inl (cI, 18, .inl (fun _ => 0))), ((bz 79), .inl (cI, 18, .inl (fun _ => 0))), ((bz 80), .inl (cI, 6, .inl (fun _ => 0))), ((bz 81), .inl (cI, 4, .inl (fun _ => 0))), ((bz 82), .inl (cI, 4, .inl (fun _ => 0))), ((bz 83), .inl (cS, 2, .inr (.inr (.inr (.inr (fun _ => none))))))]) (va_runI (As := []) (rest := [.ref z0]) ⟨hx, hb, hml, hown, hts⟩ (k_X4_init l D cI cZ cC cS H.size z0 r4 hr4) (cwI 0 hts gL_law_X4_init rfl rfl rfl (htb _ hm_n4) (htb _ hm_m4) (htb _ hm_s4) rfl nd_X4_init.2 ⟨Nat.le_of_ble_eq_true rfl, Nat.le_of_ble_eq_true rfl⟩) (PB.preS hKU hP hD [0] rfl rfl) rfl rfl hl.1 rfl (lv_room (Nat.le_of_ble_eq_true rfl)) dL_law_4 ⟨Nat.le_of_ble_eq_true rfl, Nat.le_of_ble_eq_true rfl⟩) hS hP hD hA [0] [] rfl rfl rfl (by decide) (fun b2 H locs hP hD hS => ?_)
  refine W.widen (k := 85) (n := 982) (Nat.le_of_ble_eq_true rfl) (Nat.le_of_ble_eq_true rfl) ?_
  refine lv_astore_n (lv' := [(1, .ref z0), (0, .ref b)]) hx hb dL_law_7 rfl hl (by decide) rfl (fun ls hl => ?_)
  have pm : (([(z0, .inr (4, [.ref (b2 0), .ref (b2 9), .ref (b2 15), .ref (b2 19), .ref (b2 83), .int 0, .int 0])), ((b2 0), .inr (2, [.ref (b2 1), .ref (b2 2), .ref (b2 3), .ref (b2 4), .ref (b2 5), .ref (b2 6), .int 0, .int 0, .int 0, .int 0, .ref (b2 7), .ref (b2 8)])), ((b2 1), .inl (cI, 2, .inl r4.1)), ((b2 2), .inl (cI, 36, .inl (fun _ => 0))), ((b2 3), .inl (cI, 8, .inl (fun _ => 0))), ((b2 4), .inl (cI, 18, .inl (fun _ => 0))), ((b2 5), .inl (cI, 18, .inl (fun _ => 0))), ((b2 6), .inl (cI, 6, .inl (fun _ => 0))), ((b2 7), .inl (cI, 4, .inl (fun _ => 0))), ((b2 8), .inl (cI, 4, .inl (fun _ => 0))), ((b2 9), .inr (0, [.ref (b2 0), .ref (b2 10), .ref (b2 11), .ref (b2 12), .ref (b2 13), .ref (b2 14)])), ((b2 10), .inl (cI, 5, .inl (fun _ => 0))), ((b2 11), .inl (cI, 3, .inl (fun _ => 0))), ((b2 12), .inl (cI, 3, .inl (fun _ => 0))), ((b2 13), .inl (cI, 6, .inl (fun _ => 0))), ((b2 14), .inl (cI, 6, .inl (fun _ => 0))), ((b2 15), .inr (1, [.ref (b2 16), .int 0, .int 0, .ref (b2 17)])), ((b2 16), .inl (cI, 60, .inl (fun _ => 0))), ((b2 17), .inr (3, [.int r4.2.1, .int r4.2.2.1, .int r4.2.2.2.1, .int r4.2.2.2.2.1, .ref (b2 18)])), ((b2 18), .inl (cI, 4, .inl r4.2.2.2.2.2.1)), ((b2 19), .inl (cS, 7, .inr (.inr (.inr (.inr (va_up (va_up (va_up (va_up (va_up (va_up (va_up (fun _ => none) 0 (some (b2 20))) 1 (some (b2 29))) 2 (some (b2 38))) 3 (some (b2 47))) 4 (some (b2 56))) 5 (some (b2 65))) 6 (some (b2 74))))))))] : va_W) ++ (flt (PL cI (fun p k => b2 (20 + 9 * p + k)) (fun _ => none) (fun p j => if j = 0 then (if p = 0 then r4.2.2.2.2.2.2.1 else if p = 1 then r4.2.2.2.2.2.2.2.1 else if p = 2 then r4.2.2.2.2.2.2.2.2.1 else if p = 3 then r4.2.2.2.2.2.2.2.2.2.1 else if p = 4 then r4.2.2.2.2.2.2.2.2.2.2.1 else if p = 5 then r4.2.2.2.2.2.2.2.2.2.2.2.1 else r4.2.2.2.2.2.2.2.2.2.2.2.2) else fun _ => 0)) L8 ++ ([((b2 83), .inl (cS, 2, .inr (.inr (.inr (.inr (fun _ => none))))))] : va_W))).Perm (([(z0, .inr (4, [.ref (b2 0), .ref (b2 9), .ref (b2 15), .ref (b2 19), .ref (b2 83), .int 0, .int 0])), ((b2 0), .inr (2, [.ref (b2 1), .ref (b2 2), .ref (b2 3), .ref (b2 4), .ref (b2 5), .ref (b2 6), .int 0, .int 0, .int 0, .int 0, .ref (b2 7), .ref (b2 8)])), ((b2 1), .inl (cI, 2, .inl r4.1)), ((b2 2), .inl (cI, 36, .inl (fun _ => 0))), ((b2 3), .inl (cI, 8, .inl (fun _ => 0))), ((b2 4), .inl (cI, 18, .inl (fun _ => 0))), ((b2 5), .inl (cI, 18, .inl (fun _ => 0))), ((b2 6), .inl (cI, 6, .inl (fun _ => 0))), ((b2 7), .inl (cI, 4, .inl (fun _ => 0))), ((b2 8), .inl (cI, 4, .inl (fun _ => 0))), ((b2 9), .inr (0, [.ref (b2 0), .ref (b2 10), .ref (b2 11), .ref (b2 12), .ref (b2 13), .ref (b2 14)])), ((b2 10), .inl (cI, 5, .inl (fun _ => 0))), ((b2 11), .inl (cI, 3, .inl (fun _ => 0))), ((b2 12), .inl (cI, 3, .inl (fun _ => 0))), ((b2 13), .inl (cI, 6, .inl (fun _ => 0))), ((b2 14), .inl (cI, 6, .inl (fun _ => 0))), ((b2 15), .inr (1, [.ref (b2 16), .int 0, .int 0, .ref (b2 17)])), ((b2 16), .inl (cI, 60, .inl (fun _ => 0))), ((b2 17), .inr (3, [.int r4.2.1, .int r4.2.2.1, .int r4.2.2.2.1, .int r4.2.2.2.2.1, .ref (b2 18)])), ((b2 18), .inl (cI, 4, .inl r4.2.2.2.2.2.1)), ((b2 19), .inl (cS, 7, .inr (.inr (.inr (.inr (va_up (va_up (va_up (va_up (va_up (va_up (va_up (fun _ => none) 0 (some (b2 20))) 1 (some (b2 29))) 2 (some (b2 38))) 3 (some (b2 47))) 4 (some (b2 56))) 5 (some (b2 65))) 6 (some (b2 74))))))))] : va_W) ++ (([((b2 83), .inl (cS, 2, .inr (.inr (.inr (.inr (fun _ => none))))))] : va_W) ++ flt (PL cI (fun p k => b2 (20 + 9 * p + k)) (fun _ => none) (fun p j => if j = 0 then (if p = 0 then r4.2.2.2.2.2.2.1 else if p = 1 then r4.2.2.2.2.2.2.2.1 else if p = 2 then r4.2.2.2.2.2.2.2.2.1 else if p = 3 then r4.2.2.2.2.2.2.2.2.2.1 else if p = 4 then r4.2.2.2.2.2.2.2.2.2.2.1 else if p = 5 then r4.2.2.2.2.2.2.2.2.2.2.2.1 else r4.2.2.2.2.2.2.2.2.2.2.2.2) else fun _ => 0)) L8)) := List.perm_append_comm.append_left _
  have P1 : va_P D vwCl (([(z0, .inr (4, [.ref (b2 0), .ref (b2 9), .ref (b2 15), .ref (b2 19), .ref (b2 83), .int 0, .int 0])), ((b2 0), .inr (2, [.ref (b2 1), .ref (b2 2), .ref (b2 3), .ref (b2 4), .ref (b2 5), .ref (b2 6), .int 0, .int 0, .int 0, .int 0, .ref (b2 7), .ref (b2 8)])), ((b2 1), .inl (cI, 2, .inl r4.1)), ((b2 2), .inl (cI, 36, .inl (fun _ => 0))), ((b2 3), .inl (cI, 8, .inl (fun _ => 0))), ((b2 4), .inl (cI, 18, .inl (fun _ => 0))), ((b2 5), .inl (cI, 18, .inl (fun _ => 0))), ((b2 6), .inl (cI, 6, .inl (fun _ => 0))), ((b2 7), .inl (cI, 4, .inl (fun _ => 0))), ((b2 8), .inl (cI, 4, .inl (fun _ => 0))), ((b2 9), .inr (0, [.ref (b2 0), .ref (b2 10), .ref (b2 11), .ref (b2 12), .ref (b2 13), .ref (b2 14)])), ((b2 10), .inl (cI, 5, .inl (fun _ => 0))), ((b2 11), .inl (cI, 3, .inl (fun _ => 0))), ((b2 12), .inl (cI, 3, .inl (fun _ => 0))), ((b2 13), .inl (cI, 6, .inl (fun _ => 0))), ((b2 14), .inl (cI, 6, .inl (fun _ => 0))), ((b2 15), .inr (1, [.ref (b2 16), .int 0, .int 0, .ref (b2 17)])), ((b2 16), .inl (cI, 60, .inl (fun _ => 0))), ((b2 17), .inr (3, [.int r4.2.1, .int r4.2.2.1, .int r4.2.2.2.1, .int r4.2.2.2.2.1, .ref (b2 18)])), ((b2 18), .inl (cI, 4, .inl r4.2.2.2.2.2.1)), ((b2 19), .inl (cS, 7, .inr (.inr (.inr (.inr (va_up (va_up (va_up (va_up (va_up (va_up (va_up (fun _ => none) 0 (some (b2 20))) 1 (some (b2 29))) 2 (some (b2 38))) 3 (some (b2 47))) 4 (some (b2 56))) 5 (some (b2 65))) 6 (some (b2 74))))))))] : va_W) ++ (flt (PL cI (fun p k => b2 (20 + 9 * p + k)) (fun _ => none) (fun p j => if j = 0 then (if p = 0 then r4.2.2.2.2.2.2.1 else if p = 1 then r4.2.2.2.2.2.2.2.1 else if p = 2 then r4.2.2.2.2.2.2.2.2.1 else if p = 3 then r4.2.2.2.2.2.2.2.2.2.1 else if p = 4 then r4.2.2.2.2.2.2.2.2.2.2.1 else if p = 5 then r4.2.2.2.2.2.2.2.2.2.2.2.1 else r4.2.2.2.2.2.2.2.2.2.2.2.2) else fun _ => 0)) L8 ++ ([((b2 83), .inl (cS, 2, .inr (.inr (.inr (.inr (fun _ => none))))))] : va_W))) H := hP
  have D1 : va_D (fun q : Nat => s.heap.size ≤ q) (([(z0, .inr (4, [.ref (b2 0), .ref (b2 9), .ref (b2 15), .ref (b2 19), .ref (b2 83), .int 0, .int 0])), ((b2 0), .inr (2, [.ref (b2 1), .ref (b2 2), .ref (b2 3), .ref (b2 4), .ref (b2 5), .ref (b2 6), .int 0, .int 0, .int 0, .int 0, .ref (b2 7), .ref (b2 8)])), ((b2 1), .inl (cI, 2, .inl r4.1)), ((b2 2), .inl (cI, 36, .inl (fun _ => 0))), ((b2 3), .inl (cI, 8, .inl (fun _ => 0))), ((b2 4), .inl (cI, 18, .inl (fun _ => 0))), ((b2 5), .inl (cI, 18, .inl (fun _ => 0))), ((b2 6), .inl (cI, 6, .inl (fun _ => 0))), ((b2 7), .inl (cI, 4, .inl (fun _ => 0))), ((b2 8), .inl (cI, 4, .inl (fun _ => 0))), ((b2 9), .inr (0, [.ref (b2 0), .ref (b2 10), .ref (b2 11), .ref (b2 12), .ref (b2 13), .ref (b2 14)])), ((b2 10), .inl (cI, 5, .inl (fun _ => 0))), ((b2 11), .inl (cI, 3, .inl (fun _ => 0))), ((b2 12), .inl (cI, 3, .inl (fun _ => 0))), ((b2 13), .inl (cI, 6, .inl (fun _ => 0))), ((b2 14), .inl (cI, 6, .inl (fun _ => 0))), ((b2 15), .inr (1, [.ref (b2 16), .int 0, .int 0, .ref (b2 17)])), ((b2 16), .inl (cI, 60, .inl (fun _ => 0))), ((b2 17), .inr (3, [.int r4.2.1, .int r4.2.2.1, .int r4.2.2.2.1, .int r4.2.2.2.2.1, .ref (b2 18)])), ((b2 18), .inl (cI, 4, .inl r4.2.2.2.2.2.1)), ((b2 19), .inl (cS, 7, .inr (.inr (.inr (.inr (va_up (va_up (va_up (va_up (va_up (va_up (va_up (fun _ => none) 0 (some (b2 20))) 1 (some (b2 29))) 2 (some (b2 38))) 3 (some (b2 47))) 4 (some (b2 56))) 5 (some (b2 65))) 6 (some (b2 74))))))))] : va_W) ++ (flt (PL cI (fun p k => b2 (20 + 9 * p + k)) (fun _ => none) (fun p j => if j = 0 then (if p = 0 then r4.2.2.2.2.2.2.1 else if p = 1 then r4.2.2.2.2.2.2.2.1 else if p = 2 then r4.2.2.2.2.2.2.2.2.1 else if p = 3 then r4.2.2.2.2.2.2.2.2.2.1 else if p = 4 then r4.2.2.2.2.2.2.2.2.2.2.1 else if p = 5 then r4.2.2.2.2.2.2.2.2.2.2.2.1 else r4.2.2.2.2.2.2.2.2.2.2.2.2) else fun _ => 0)) L8 ++ ([((b2 83), .inl (cS, 2, .inr (.inr (.inr (.inr (fun _ => none))))))] : va_W))) := hD
  have P2 := P_perm P1 pm
  have D2 := D_perm D1 pm
  rw [hr40] at P2 D2
  have hW : WD D cI cS (fun q : Nat => s.heap.size ≤ q) z0 X0 H := by
    refine ⟨_, ⟨(fun k => if k = 0 then z0 else if k < 21 then b2 (k - 1) else b2 83), σ0, (fun p j => if j = 0 then (if p = 0 then r4.2.2.2.2.2.2.1 else if p = 1 then r4.2.2.2.2.2.2.2.1 else if p = 2 then r4.2.2.2.2.2.2.2.2.1 else if p = 3 then r4.2.2.2.2.2.2.2.2.2.1 else if p = 4 then r4.2.2.2.2.2.2.2.2.2.2.1 else if p = 5 then r4.2.2.2.2.2.2.2.2.2.2.2.1 else r4.2.2.2.2.2.2.2.2.2.2.2.2) else fun _ => 0), (fun p k => b2 (20 + 9 * p + k)), (va_up (va_up (va_up (va_up (va_up (va_up (va_up (fun _ => none) 0 (some (b2 20))) 1 (some (b2 29))) 2 (some (b2 38))) 3 (some (b2 47))) 4 (some (b2 56))) 5 (some (b2 65))) 6 (some (b2 74))), (fun _ => none), 0, (fun _ => 0), (fun _ => 0), (fun _ => 0), (fun _ => 0), (fun _ => 0), 0, 0, (fun _ => 0), r4.2.1, r4.2.2.1, r4.2.2.2.1, r4.2.2.2.2.1, r4.2.2.2.2.2.1, rfl, RS0, ⟨Nat.zero_le 6, fun j hj => absurd (show j < 0 from hj) (by omega)⟩, by omega, fun q hq => ?_, Or.inl ⟨rfl, rfl⟩, List.Perm.refl _⟩, P2, D2⟩
    rcases (show q = 0 ∨ q = 1 ∨ q = 2 ∨ q = 3 ∨ q = 4 ∨ q = 5 ∨ q = 6 by omega) with rfl | rfl | rfl | rfl | rfl | rfl | rfl <;> rfl
  exact law_rest hx hb hr hlocks hml hown hts hX hbl hKU hA (fun _ h => h) (Nat.not_le.mpr hbl) (law_ok (by omega)) H locs hW hS ls (lv_sub hl [1, 0] rfl)
