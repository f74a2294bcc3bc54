-- pure: rinses on the way round
def ch (N : Nat → Nat) (P : Nat) : Int32 := (near N P 8).1
theorem near_emp {N : Nat → Nat} {c P : Nat} (I : Inv N c) (hP : P < 6) : ∀ i, i ≤ 8 → ((near N P i).1 = -6 ↔ su (po N) i = 0) ∧ (su (po N) i = 0 → (near N P i).2 = 1000)
  | 0, _ => ⟨⟨fun _ => rfl, fun _ => rfl⟩, fun _ => rfl⟩
  | i + 1, hi => by
    obtain ⟨a, b⟩ := near_emp I hP i (by omega)
    have hd := dp_le (p := i) I hP
    have hs : su (po N) (i + 1) = su (po N) i + po N i := rfl
    rw [hs]
    unfold near
    by_cases h0 : po N i = 0
    · rw [if_pos h0, h0, Nat.add_zero]
      exact ⟨a, b⟩
    · rw [if_neg h0]
      by_cases h1 : (near N P i).2 ≤ dp N P i
      · rw [if_pos h1]
        refine ⟨⟨fun q => absurd (b (a.mp q)) (by omega), fun q => absurd q (by omega)⟩, fun q => absurd q (by omega)⟩
      · rw [if_neg h1]
        refine ⟨⟨fun q => absurd (show nI i < 0 by rw [show nI i = -6 from q]; decide) (nI_pos (by omega)), fun q => absurd q (by omega)⟩, fun q => absurd q (by omega)⟩
theorem cCh_s {d w r : Nat → Int32} {N : Nat → Nat} {c i fu : Nat} {kk : (Nat → Int32) → Option (Int32 × (Nat → Int32))} (hd : RD d N) (hw : ∀ k, k < 18 → w k = nI (N (wm k))) (I : Inv N c) (hi : i < 6) : s_X0_choosePots_L1 d w kk (fu + 1) (nI i, r) = s_X0_choosePots_L1 d w kk fu (nI (i + 1), upd r i (ch N i)) := by
  show s_X0_choosePots_B1 d w kk (s_X0_choosePots_L1 d w kk fu) (nI i) r = _
  unfold s_X0_choosePots_B1
  rw [if_neg (show ¬ (6 : Int32) ≤ nI i from nI_ge (a := i) (b := 6) (by omega) (by omega)), cl_e (cNear hd hw I hi), cl_e (write_n hi (by omega)), nm_e', nI_1]
  rfl
theorem cChoose {d w : Nat → Int32} {N : Nat → Nat} {c : Nat} (hd : RD d N) (hw : ∀ k, k < 18 → w k = nI (N (wm k))) (I : Inv N c) (r : Nat → Int32) : ∃ r', s_X0_choosePots d w r = some (if su (po N) 8 = 0 then 0 else 1, r') ∧ ∀ k, k < 6 → r' k = ch N k := by
  have hv : ∀ k, k < 6 → upd (upd (upd (upd (upd (upd r 0 (ch N 0)) 1 (ch N 1)) 2 (ch N 2)) 3 (ch N 3)) 4 (ch N 4)) 5 (ch N 5) k = ch N k := fun k hk => by
    rcases (show k = 0 ∨ k = 1 ∨ k = 2 ∨ k = 3 ∨ k = 4 ∨ k = 5 by omega) with rfl | rfl | rfl | rfl | rfl | rfl
    · rw [pk_un (by omega), pk_un (by omega), pk_un (by omega), pk_un (by omega), pk_un (by omega), pk_us]
    · rw [pk_un (by omega), pk_un (by omega), pk_un (by omega), pk_un (by omega), pk_us]
    · rw [pk_un (by omega), pk_un (by omega), pk_un (by omega), pk_us]
    · rw [pk_un (by omega), pk_un (by omega), pk_us]
    · rw [pk_un (by omega), pk_us]
    · rw [pk_us]
  refine ⟨_, ?_, hv⟩
  unfold s_X0_choosePots
  refine (cCh_s (fu := 999) (i := 0) hd hw I (by omega)).trans ?_
  refine (cCh_s (fu := 998) (i := 1) hd hw I (by omega)).trans ?_
  refine (cCh_s (fu := 997) (i := 2) hd hw I (by omega)).trans ?_
  refine (cCh_s (fu := 996) (i := 3) hd hw I (by omega)).trans ?_
  refine (cCh_s (fu := 995) (i := 4) hd hw I (by omega)).trans ?_
  refine (cCh_s (fu := 994) (i := 5) hd hw I (by omega)).trans ?_
  show s_X0_choosePots_B1 d w _ _ (nI 6) _ = _
  unfold s_X0_choosePots_B1 s_X0_choosePots_X1
  have h0 : ch N 0 = -6 ↔ su (po N) 8 = 0 := (near_emp I (P := 0) (by omega) 8 (by omega)).1
  have hat : s_X4_at 6 (upd (upd (upd (upd (upd (upd r 0 (ch N 0)) 1 (ch N 1)) 2 (ch N 2)) 3 (ch N 3)) 4 (ch N 4)) 5 (ch N 5)) 0 = some (ch N 0) := (at_n (a := 0) (n := 6) (by omega) (by omega)).trans (by rw [hv 0 (by omega)])
  rw [if_pos (show (6 : Int32) ≤ nI 6 from nI_le (a := 6) (b := 6) (by omega) (by omega)), cl_e hat]
  by_cases e : su (po N) 8 = 0
  · rw [if_pos e, if_pos (h0.mpr e)]
  · rw [if_neg e, if_neg (fun q => e (h0.mp q))]
theorem rmd6 {β : Type} {a : Nat} {k : Int32 → Option β} (ha : a < 2 ^ 30) : rmd (nI a) 6 k = k (nI (a % 6)) := by
  rw [rmd_n (by decide), show (6 : Int32) = nI 6 from rfl, pk_div (by omega) (by omega) (by omega), pk_mul, pk_sub (by omega)]
  congr 2
  omega
def rn (N : Nat → Nat) (P i : Nat) : Nat := if ch N ((P + (i + 1)) % 6) = ch N ((P + i) % 6) then 0 else 1
theorem cRn_s {r : Int32 × (Nat → Int32)} {N : Nat → Nat} {P i fu : Nat} {kk : Int32 → Option (Int32 × (Nat → Int32))} (hr : ∀ k, k < 6 → r.2 k = ch N k) (hP : P < 6) (hi : i < 5) : s_X0_rinsesFrom_L1 (nI P) r kk (fu + 1) (nI (su (rn N P) i), nI (i + 1)) = s_X0_rinsesFrom_L1 (nI P) r kk fu (nI (su (rn N P) (i + 1)), nI (i + 1 + 1)) := by
  show s_X0_rinsesFrom_B1 (nI P) r kk (s_X0_rinsesFrom_L1 (nI P) r kk fu) (nI (su (rn N P) i)) (nI (i + 1)) = _
  unfold s_X0_rinsesFrom_B1
  rw [if_neg (show ¬ (6 : Int32) ≤ nI (i + 1) from nI_ge (a := i + 1) (b := 6) (by omega) (by omega)), nI_add, rmd6 (by omega), show nI (P + (i + 1)) - 1 = nI (P + i) from pk_sub (b := 1) (by omega), rmd6 (by omega), cl_e (at_n (by omega) (by omega)), cl_e (at_n (by omega) (by omega)), hr _ (by omega), hr _ (by omega), show su (rn N P) (i + 1) = su (rn N P) i + rn N P i from rfl]
  unfold rn
  by_cases e : ch N ((P + (i + 1)) % 6) = ch N ((P + i) % 6)
  · rw [if_pos e, if_pos e, nm_e', nm_e', nI_1, show nI (su _ i) + 0 = nI (su _ i + 0) from nI_add _ 0]
  · rw [if_neg e, if_neg e, nm_e', nm_e', nI_1, nI_1]
