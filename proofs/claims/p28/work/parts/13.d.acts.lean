-- the acts of the law
noncomputable def t_0 (f0 : Ab) (x1 x2 x4 r5 r6 u1 : Int32) : Option (Int32 × Ab) := rmd (u1 >>> (15 &&& 31)) 4 fun v0 => cl (a_pot f0 x1 v0) fun v1 => cl (a_fill f0 x1 v0 x4) fun v2 => if (r5 + x4) ≤ 81 then (if v2.1 = (r5 + x4) then (cl (a_pot v2.2 x1 v0) fun v3 => if v3 = (v1 + x4) then (some (1, v2.2)) else (none)) else (none)) else (if v2.1 = (-4) then (some (1, v2.2)) else (none))
noncomputable def t_1 (f0 : Ab) (x1 x2 x4 r5 r6 u1 : Int32) : Option (Int32 × Ab) := cl (a_pot f0 x1 3) fun v0 => cl (a_pot f0 x1 8) fun v1 => cl (a_thin f0 x1) fun v2 => if r5 = 0 then (if v2.1 = (-5) then (some (1, v2.2)) else (none)) else (if (3 * r5) ≤ 81 then (if v2.1 = (3 * r5) then (cl (a_pot v2.2 x1 3) fun v3 => if v3 = (v0 + (2 * r5)) then (cl (a_pot v2.2 x1 8) fun v4 => if v4 = (v1 + 1) then (some (1, v2.2)) else (none)) else (none)) else (none)) else (if v2.1 = (-4) then (some (1, v2.2)) else (none)))
noncomputable def t_2 (f0 : Ab) (x1 x2 x4 r5 r6 u1 : Int32) : Option (Int32 × Ab) := cl (a_pot f0 x2 4) fun v0 => cl (a_pot f0 x1 0) fun v1 => cl (a_pot f0 x2 0) fun v2 => cl (a_pour f0 x1 x2 x4) fun v3 => if x1 = x2 then (if v3.1 = (-2) then (some (1, v3.2)) else (none)) else (if x4 ≤ r5 then (if (v0 + x4) ≤ 81 then (if v3.1 = (v0 + x4) then (cl (a_pot v3.2 x1 4) fun v4 => if v4 = (r5 - x4) then (cl (a_pot v3.2 x1 0) fun v5 => cl (a_pot v3.2 x2 0) fun v6 => if (v5 + v6) = (v1 + v2) then (cl (a_pot v3.2 x2 0) fun v7 => dv (v1 * x4) r5 fun v8 => if ((v7 - v2) - v8) < 0 then (none) else (cl (a_pot v3.2 x2 0) fun v9 => dv (v1 * x4) r5 fun v10 => if 1 < ((v9 - v2) - v10) then (none) else (some (1, v3.2)))) else (none)) else (none)) else (none)) else (if v3.1 = (-4) then (some (1, v3.2)) else (none))) else (if v3.1 = (-5) then (some (1, v3.2)) else (none)))
noncomputable def t_3 (f0 : Ab) (x1 x2 x4 r5 r6 u1 : Int32) : Option (Int32 × Ab) := rmd (u1 >>> (10 &&& 31)) 9 fun v0 => nm (1 + v0) fun v1 => cl (a_dip f0 x1 v1) fun v2 => if v1 ≤ r5 then (if (r6 + v1) ≤ 9 then (if v2.1 = (r6 + v1) then (cl (a_pot v2.2 x1 4) fun v3 => if v3 = (r5 - v1) then (some (1, v2.2)) else (none)) else (none)) else (if v2.1 = (-4) then (some (1, v2.2)) else (none))) else (if v2.1 = (-5) then (some (1, v2.2)) else (none))
noncomputable def t_4 (f0 : Ab) (x1 x2 x4 r5 r6 u1 : Int32) : Option (Int32 × Ab) := rmd (u1 >>> (4 &&& 31)) 6 fun v0 => cl (a_brush f0 5) fun v1 => cl (a_panel f0 v0 8) fun v2 => cl (a_paint f0 v0) fun v3 => cl (a_count v3.2 0) fun v4 => if v4 ≤ r6 then (cl (a_panel v3.2 v0 6) fun v5 => if v3.1 = v5 then (cl (a_panel v3.2 v0 3) fun v6 => if v6 = v1 then (cl (a_brush v3.2 4) fun v7 => cl (a_count v3.2 0) fun v8 => if v7 = (r6 - v8) then (cl (a_panel v3.2 v0 8) fun v9 => if v9 = (v2 + 1) then (some (1, v3.2)) else (none)) else (none)) else (none)) else (none)) else (if v3.1 = (-5) then (some (1, v3.2)) else (none))
noncomputable def t_5 (f0 : Ab) (x1 x2 x4 r5 r6 u1 : Int32) : Option (Int32 × Ab) := cl (a_count f0 5) fun v0 => rmd (u1 >>> (4 &&& 31)) 3 fun v1 => if v1 = 0 then (cl (a_empty f0 x1) fun v2 => if v2.1 = r5 then (cl (a_count v2.2 5) fun v3 => if v3 = (v0 + r5) then (cl (a_pot v2.2 x1 4) fun v4 => if v4 = 0 then (some (1, v2.2)) else (none)) else (none)) else (none)) else (cl (a_rinse f0) fun v5 => if v5.1 = r6 then (cl (a_brush v5.2 4) fun v6 => if v6 = 0 then (cl (a_count v5.2 5) fun v7 => if v7 = (v0 + r6) then (cl (a_brush v5.2 5) fun v8 => if v8 = (-6) then (some (1, v5.2)) else (none)) else (none)) else (none)) else (none))
noncomputable def t_6 (f0 : Ab) (x1 x2 x4 r5 r6 u1 : Int32) : Option (Int32 × Ab) := rmd (u1 >>> (4 &&& 31)) 6 fun v0 => rmd (u1 >>> (7 &&& 31)) 101 fun v1 => rmd (u1 >>> (14 &&& 31)) 101 fun v2 => rmd (u1 >>> (21 &&& 31)) 101 fun v3 => rmd (u1 >>> (3 &&& 31)) 4 fun v4 => if v4 = 0 then (rmd v1 61 fun v5 => cl (a_set f0 1 v5) fun v6 => if v6.1 < 0 then (none) else (cl (a_count v6.2 1) fun v7 => rmd v1 61 fun v8 => if v7 = v8 then (rmd v2 9 fun v9 => cl (a_set v6.2 0 (1 + v9)) fun v10 => if v10.1 ≤ 0 then (none) else (cl (a_count v10.2 0) fun v11 => rmd v2 9 fun v12 => if v11 = (1 + v12) then (some (1, v10.2)) else (none))) else (none))) else (cl (a_want f0 v0 v1 v2 v3) fun v13 => cl (a_count v13.2 7) fun v14 => if v13.1 = v14 then (cl (a_panel v13.2 v0 0) fun v15 => if v15 = v1 then (cl (a_panel v13.2 v0 1) fun v16 => if v16 = v2 then (cl (a_panel v13.2 v0 2) fun v17 => if v17 = v3 then (some (1, v13.2)) else (none)) else (none)) else (none)) else (none))
def J (x : Ab) (c : Nat) : Prop := Inv x.1 c ∧ Bal x.1 ∧ (x.2.2.2 = none ∧ x.2.2.1 ≤ 6)
theorem chgA_k {x : Ab} (R : Int32 × (Nat → Nat)) (h : x.2.2.1 ≤ 6) : (chgA x R).2.2.1 ≤ 6 := by
  show (if R.1 < 0 then x.2 else _).2.1 ≤ 6
  by_cases hr : R.1 < 0
  · rw [if_pos hr]; exact h
  · rw [if_neg hr]
    show (if x.2.2.1 = 6 then 6 else x.2.2.1 + 1) ≤ 6
    split <;> omega
theorem J_chg {x : Ab} {R : Int32 × (Nat → Nat)} {c : Nat} (hI : Inv R.2 c) (hB : Bal R.2) (hs : x.2.2.2 = none ∧ x.2.2.1 ≤ 6) : J (chgA x R) c := ⟨hI, hB, (chgA_sl x R).trans hs.1, chgA_k R hs.2⟩
theorem J.mono {x : Ab} {c c' : Nat} (h : J x c) (hc : c ≤ c') : J x c' := ⟨h.1.mono hc, h.2.1, h.2.2⟩
theorem rmdN {β : Type} {n d : Nat} {D : Int32} {kk : Int32 → Option β} (hn : n < 2 ^ 31) (hD : D = nI d) (h0 : 0 < d) (hd : d < 2 ^ 31) : rmd (nI n) D kk = kk (nI (n % d)) := by
  rw [hD, rmd_n (nI_ne0 h0 hd), pk_rem hn h0 hd]
theorem rsh {β : Type} {n k d : Nat} {s D : Int32} {kk : Int32 → Option β} (hn : n < 2 ^ 31) (hs : (s.toBitVec.smod 32).toNat = k) (hD : D = nI d) (h0 : 0 < d) (hd : d < 2 ^ 31) : rmd (nI n >>> s) D kk = kk (nI (n / 2 ^ k % d)) := by
  rw [pk_shrN hn s k hs, rmdN (Nat.lt_of_le_of_lt (Nat.div_le_self n (2 ^ k)) hn) hD h0 hd]
set_option maxHeartbeats 4000000 in
theorem acts_e {x : Ab} {c n p t m : Nat} (I : Inv x.1 c) (hc : c ≤ 2 ^ 28) (hn : n < 2 ^ 31) (hp : p = n / 2 ^ 4 % 8) (ht : t = n / 2 ^ 7 % 8) (hm : m = 1 + n / 2 ^ 10 % 30) : s_L_acts x (nI n) = (if nI (n % 11) = 0 then t_0 x (nI p) (nI t) (nI m) (nI (sm4 x.1 (qp p))) (nI (sm4 x.1 47)) (nI n) else if nI (n % 11) = 1 then t_0 x (nI p) (nI t) (nI m) (nI (sm4 x.1 (qp p))) (nI (sm4 x.1 47)) (nI n) else if nI (n % 11) = 2 then t_0 x (nI p) (nI t) (nI m) (nI (sm4 x.1 (qp p))) (nI (sm4 x.1 47)) (nI n) else if nI (n % 11) = 3 then t_1 x (nI p) (nI t) (nI m) (nI (sm4 x.1 (qp p))) (nI (sm4 x.1 47)) (nI n) else if nI (n % 11) = 4 then t_2 x (nI p) (nI t) (nI m) (nI (sm4 x.1 (qp p))) (nI (sm4 x.1 47)) (nI n) else if nI (n % 11) = 5 then t_2 x (nI p) (nI t) (nI m) (nI (sm4 x.1 (qp p))) (nI (sm4 x.1 47)) (nI n) else if nI (n % 11) = 6 then t_3 x (nI p) (nI t) (nI m) (nI (sm4 x.1 (qp p))) (nI (sm4 x.1 47)) (nI n) else if nI (n % 11) = 7 then t_3 x (nI p) (nI t) (nI m) (nI (sm4 x.1 (qp p))) (nI (sm4 x.1 47)) (nI n) else if nI (n % 11) = 8 then t_4 x (nI p) (nI t) (nI m) (nI (sm4 x.1 (qp p))) (nI (sm4 x.1 47)) (nI n) else if nI (n % 11) = 9 then t_5 x (nI p) (nI t) (nI m) (nI (sm4 x.1 (qp p))) (nI (sm4 x.1 47)) (nI n) else t_6 x (nI p) (nI t) (nI m) (nI (sm4 x.1 (qp p))) (nI (sm4 x.1 47)) (nI n)) := by
  have hp8 : p < 8 := by rw [hp]; exact Nat.mod_lt _ (by omega)
  unfold s_L_acts
  rw [rsh (s := (4 : Int32) &&& 31) (D := 8) (k := 4) (d := 8) hn (by decide +kernel) rfl (by omega) (by omega), rsh (s := (7 : Int32) &&& 31) (D := 8) (k := 7) (d := 8) hn (by decide +kernel) rfl (by omega) (by omega), rsh (s := (10 : Int32) &&& 31) (D := 30) (k := 10) (d := 30) hn (by decide +kernel) rfl (by omega) (by omega), ← hp, ← ht, show (1 : Int32) + nI (n / 2 ^ 10 % 30) = nI (1 + n / 2 ^ 10 % 30) from nI_add 1 _, ← hm, nm_e', cl_e (p_4 I hc hp8), cl_e (b_4 I hc), rmdN (D := 11) (d := 11) hn rfl (by omega) (by omega)]
  rfl
set_option maxHeartbeats 4000000 in
theorem act_0 {x : Ab} {c p t m n : Nat} (hJ : J x c) (hc : c + 1 ≤ 2 ^ 28) (hn : n < 2 ^ 31) (hp : p < 8) (ht : t < 8) (hm1 : 1 ≤ m) (hm : m ≤ 30) : ∃ x' : Ab, t_0 x (nI p) (nI t) (nI m) (nI (sm4 x.1 (qp p))) (nI (sm4 x.1 47)) (nI n) = some (1, x') ∧ J x' (c + 1) := by
  obtain ⟨I, hB, hs⟩ := hJ
  have hc0 : c ≤ 2 ^ 28 := by omega
  have h81 := sm4_81 I hp
  have h9 := I.2.2.2.1
  have eq := qp8 hp
  unfold t_0
  have hk : n / 2 ^ 15 % 4 < 4 := Nat.mod_lt _ (by omega)
  have ea : nI (sm4 x.1 (qp p)) + nI m = nI (sm4 x.1 (qp p) + m) := nI_add _ _
  rw [rsh (s := (15 : Int32) &&& 31) (D := 4) (k := 15) (d := 4) hn (by decide +kernel) rfl (by omega) (by omega)]
  generalize n / 2 ^ 15 % 4 = k at hk ⊢
  rw [cl_e (p_k I hc0 hp hk), cl_e (a_fill_n I hc0 hp hk hm1 (by omega)), ea]
  by_cases hle : sm4 x.1 (qp p) + m ≤ 81
  · have eR : fillR x.1 p k m = (nI (sm4 x.1 (qp p) + m), upN (upN x.1 (qp p + k) (x.1 (qp p + k) + m)) 2 (x.1 2 + m)) := if_pos hle
    rw [eR]
    obtain ⟨i1, b1⟩ := I_fill I hB hp hk hle
    have hJ' := J_chg (x := x) (R := (nI (sm4 x.1 (qp p) + m), upN (upN x.1 (qp p + k) (x.1 (qp p + k) + m)) 2 (x.1 2 + m))) (i1.mono (Nat.le_succ c)) b1 hs
    have e2 : (chgA x (nI (sm4 x.1 (qp p) + m), upN (upN x.1 (qp p + k) (x.1 (qp p + k) + m)) 2 (x.1 2 + m))).1 (qp p + k) = x.1 (qp p + k) + m := by
      show upN (upN x.1 (qp p + k) (x.1 (qp p + k) + m)) 2 (x.1 2 + m) (qp p + k) = _
      rw [upN_n (by omega), upN_s]
    refine ⟨_, ?_, hJ'⟩
    dsimp only
    rw [if_pos (show nI (sm4 x.1 (qp p) + m) ≤ (81 : Int32) from nI_le (b := 81) hle (by omega)), if_pos (show nI (sm4 x.1 (qp p) + m) = nI (sm4 x.1 (qp p) + m) from rfl), cl_e (p_k hJ'.1 hc hp hk), e2, if_pos (show nI (x.1 (qp p + k) + m) = nI (x.1 (qp p + k)) + nI m from (nI_add _ _).symm)]
  · have eR : fillR x.1 p k m = (-4, x.1) := if_neg hle
    rw [eR]
    refine ⟨_, ?_, J_chg (x := x) (R := (-4, x.1)) (I.mono (Nat.le_succ c)) hB hs⟩
    dsimp only
    rw [if_neg (show ¬ nI (sm4 x.1 (qp p) + m) ≤ (81 : Int32) from nI_ge (a := 81) (by omega) (by omega)), if_pos (show (-4 : Int32) = -4 from rfl)]
set_option maxHeartbeats 4000000 in
theorem act_1 {x : Ab} {c p t m n : Nat} (hJ : J x c) (hc : c + 1 ≤ 2 ^ 28) (hn : n < 2 ^ 31) (hp : p < 8) (ht : t < 8) (hm1 : 1 ≤ m) (hm : m ≤ 30) : ∃ x' : Ab, t_1 x (nI p) (nI t) (nI m) (nI (sm4 x.1 (qp p))) (nI (sm4 x.1 47)) (nI n) = some (1, x') ∧ J x' (c + 1) := by
  obtain ⟨I, hB, hs⟩ := hJ
  have hc0 : c ≤ 2 ^ 28 := by omega
  have h81 := sm4_81 I hp
  have h9 := I.2.2.2.1
  have eq := qp8 hp
  unfold t_1
  have e3 : (3 : Int32) * nI (sm4 x.1 (qp p)) = nI (3 * sm4 x.1 (qp p)) := pk_mul 3 _
  have e2' : (2 : Int32) * nI (sm4 x.1 (qp p)) = nI (2 * sm4 x.1 (qp p)) := pk_mul 2 _
  rw [cl_e (p_3 I hc0 hp), cl_e (p_8 I hc0 hp), cl_e (a_thin_n I hc0 hp), e3, e2']
  by_cases hz : sm4 x.1 (qp p) = 0
  · have eR : thinR x.1 p = (-5, x.1) := if_pos hz
    rw [eR]
    refine ⟨_, ?_, J_chg (x := x) (R := (-5, x.1)) (I.mono (Nat.le_succ c)) hB hs⟩
    dsimp only
    rw [if_pos (show nI (sm4 x.1 (qp p)) = 0 by rw [hz]; rfl), if_pos (show (-5 : Int32) = -5 from rfl)]
  rw [if_neg (show ¬ nI (sm4 x.1 (qp p)) = 0 from nI_ne0 (by omega) (by omega))]
  by_cases hle : 3 * sm4 x.1 (qp p) ≤ 81
  · have eR : thinR x.1 p = (nI (3 * sm4 x.1 (qp p)), upN (upN (upN x.1 (qp p + 3) (x.1 (qp p + 3) + 2 * sm4 x.1 (qp p))) 2 (x.1 2 + 2 * sm4 x.1 (qp p))) (11 + 5 * p) (x.1 (11 + 5 * p) + 1)) := (if_neg hz).trans (if_pos hle)
    rw [eR]
    obtain ⟨i1, b1⟩ := I_thin I hB hp hle
    have hJ' := J_chg (x := x) (R := (nI (3 * sm4 x.1 (qp p)), upN (upN (upN x.1 (qp p + 3) (x.1 (qp p + 3) + 2 * sm4 x.1 (qp p))) 2 (x.1 2 + 2 * sm4 x.1 (qp p))) (11 + 5 * p) (x.1 (11 + 5 * p) + 1))) (i1.mono (Nat.le_succ c)) b1 hs
    have q1 : (chgA x (nI (3 * sm4 x.1 (qp p)), upN (upN (upN x.1 (qp p + 3) (x.1 (qp p + 3) + 2 * sm4 x.1 (qp p))) 2 (x.1 2 + 2 * sm4 x.1 (qp p))) (11 + 5 * p) (x.1 (11 + 5 * p) + 1))).1 (qp p + 3) = x.1 (qp p + 3) + 2 * sm4 x.1 (qp p) := by
      show upN (upN (upN x.1 (qp p + 3) (x.1 (qp p + 3) + 2 * sm4 x.1 (qp p))) 2 (x.1 2 + 2 * sm4 x.1 (qp p))) (11 + 5 * p) (x.1 (11 + 5 * p) + 1) (qp p + 3) = _
      rw [upN_n (by omega), upN_n (by omega), upN_s]
    have q2 : (chgA x (nI (3 * sm4 x.1 (qp p)), upN (upN (upN x.1 (qp p + 3) (x.1 (qp p + 3) + 2 * sm4 x.1 (qp p))) 2 (x.1 2 + 2 * sm4 x.1 (qp p))) (11 + 5 * p) (x.1 (11 + 5 * p) + 1))).1 (11 + 5 * p) = x.1 (11 + 5 * p) + 1 := upN_s
    refine ⟨_, ?_, hJ'⟩
    dsimp only
    rw [if_pos (show nI (3 * sm4 x.1 (qp p)) ≤ (81 : Int32) from nI_le (b := 81) hle (by omega)), if_pos (show nI (3 * sm4 x.1 (qp p)) = nI (3 * sm4 x.1 (qp p)) from rfl), cl_e (p_3 hJ'.1 hc hp), q1, if_pos (show nI (x.1 (qp p + 3) + 2 * sm4 x.1 (qp p)) = nI (x.1 (qp p + 3)) + nI (2 * sm4 x.1 (qp p)) from (nI_add _ _).symm), cl_e (p_8 hJ'.1 hc hp), q2, if_pos (show nI (x.1 (11 + 5 * p) + 1) = nI (x.1 (11 + 5 * p)) + 1 from (nI_1 _).symm)]
  · have eR : thinR x.1 p = (-4, x.1) := (if_neg hz).trans (if_neg hle)
    rw [eR]
    refine ⟨_, ?_, J_chg (x := x) (R := (-4, x.1)) (I.mono (Nat.le_succ c)) hB hs⟩
    dsimp only
    rw [if_neg (show ¬ nI (3 * sm4 x.1 (qp p)) ≤ (81 : Int32) from nI_ge (a := 81) (by omega) (by omega)), if_pos (show (-4 : Int32) = -4 from rfl)]
set_option maxHeartbeats 4000000 in
theorem act_2 {x : Ab} {c p t m n : Nat} (hJ : J x c) (hc : c + 1 ≤ 2 ^ 28) (hn : n < 2 ^ 31) (hp : p < 8) (ht : t < 8) (hm1 : 1 ≤ m) (hm : m ≤ 30) : ∃ x' : Ab, t_2 x (nI p) (nI t) (nI m) (nI (sm4 x.1 (qp p))) (nI (sm4 x.1 47)) (nI n) = some (1, x') ∧ J x' (c + 1) := by
  obtain ⟨I, hB, hs⟩ := hJ
  have hc0 : c ≤ 2 ^ 28 := by omega
  have h81 := sm4_81 I hp
  have h9 := I.2.2.2.1
  have eq := qp8 hp
  unfold t_2
  have h81t := sm4_81 I ht
  have ea : nI (sm4 x.1 (qp t)) + nI m = nI (sm4 x.1 (qp t) + m) := nI_add _ _
  rw [cl_e (p_4 I hc0 ht), cl_e (p_0 I hc0 hp), cl_e (p_0 I hc0 ht), cl_e (a_pour_n I hc0 hp ht hm1 (by omega)), ea]
  by_cases hpt : p = t
  · have eR : pourR x.1 p t m = (-2, x.1) := if_pos hpt
    rw [eR]
    refine ⟨_, ?_, J_chg (x := x) (R := (-2, x.1)) (I.mono (Nat.le_succ c)) hB hs⟩
    dsimp only
    rw [if_pos (show nI p = nI t by rw [hpt]), if_pos (show (-2 : Int32) = -2 from rfl)]
  rw [if_neg (show ¬ nI p = nI t from fun q => hpt ((nI_eq (by omega) (by omega)).mp q))]
  by_cases hle : m ≤ sm4 x.1 (qp p)
  · rw [if_pos (show nI m ≤ nI (sm4 x.1 (qp p)) from nI_le hle (by omega))]
    by_cases hh : sm4 x.1 (qp t) + m ≤ 81
    · have eR : pourR x.1 p t m = (nI (sm4 x.1 (qp t) + m), moveN x.1 p t m) := (if_neg hpt).trans ((if_pos hle).trans (if_pos hh))
      rw [eR]
      obtain ⟨i1, b1⟩ := I_move I hB hp (show t < 9 by omega) hpt (by omega) hle (by rw [if_pos ht]; exact hh)
      have hJ' := J_chg (x := x) (R := (nI (sm4 x.1 (qp t) + m), moveN x.1 p t m)) (i1.mono (Nat.le_succ c)) b1 hs
      obtain ⟨sp, st, -⟩ := mv_p (N := x.1) (show p < 9 by omega) (show t < 9 by omega) hpt (show 0 < m by omega) hle
      obtain ⟨y1, -⟩ := yv_ok hle (show 0 < sm4 x.1 (qp p) by omega)
      have ya : yv x.1 (qp p) m 0 ≤ x.1 (qp p) := (y1 0 (by omega)).1
      have yb : x.1 (qp p) * m / sm4 x.1 (qp p) ≤ yv x.1 (qp p) m 0 := (y1 0 (by omega)).2.1
      have yc : yv x.1 (qp p) m 0 ≤ x.1 (qp p) * m / sm4 x.1 (qp p) + 1 := (y1 0 (by omega)).2.2
      have hap := qp_apart (show p < 9 by omega) (show t < 9 by omega) hpt
      have q1 : (chgA x (nI (sm4 x.1 (qp t) + m), moveN x.1 p t m)).1 (qp p) = x.1 (qp p) - yv x.1 (qp p) m 0 := by
        show ptN (tkN x.1 (qp p) (yv x.1 (qp p) m) 4) (qp t) (yv x.1 (qp p) m) 4 (qp p) = _
        rw [ptN_off (by omega)]
        show (if qp p ≤ qp p ∧ qp p < qp p + 4 then x.1 (qp p) - yv x.1 (qp p) m (qp p - qp p) else x.1 (qp p)) = _
        rw [if_pos (by omega), Nat.sub_self]
      have q2 : (chgA x (nI (sm4 x.1 (qp t) + m), moveN x.1 p t m)).1 (qp t) = x.1 (qp t) + yv x.1 (qp p) m 0 := by
        show (if qp t ≤ qp t ∧ qp t < qp t + 4 then tkN x.1 (qp p) (yv x.1 (qp p) m) 4 (qp t) + yv x.1 (qp p) m (qp t - qp t) else tkN x.1 (qp p) (yv x.1 (qp p) m) 4 (qp t)) = _
        rw [if_pos (by omega), Nat.sub_self, tkN_off (by omega)]
      have q3 : sm4 (chgA x (nI (sm4 x.1 (qp t) + m), moveN x.1 p t m)).1 (qp p) = sm4 x.1 (qp p) - m := sp
      have hb0 : x.1 (qp p) ≤ sm4 x.1 (qp p) := sm4_ge x.1 (qp p) (k := 0) (by omega)
      have hb1 : x.1 (qp t) ≤ sm4 x.1 (qp t) := sm4_ge x.1 (qp t) (k := 0) (by omega)
      have hmul : x.1 (qp p) * m ≤ 81 * 81 := Nat.mul_le_mul (by omega) (by omega)
      have em : nI (x.1 (qp p)) * nI m = nI (x.1 (qp p) * m) := pk_mul _ _
      have ed : nI (x.1 (qp p) * m) / nI (sm4 x.1 (qp p)) = nI (x.1 (qp p) * m / sm4 x.1 (qp p)) := pk_div (by omega) (by omega) (by omega)
      have es : nI (x.1 (qp t) + yv x.1 (qp p) m 0) - nI (x.1 (qp t)) = nI (yv x.1 (qp p) m 0) := by
        rw [pk_sub (by omega)]
        congr 1
        omega
      have es2 : nI (yv x.1 (qp p) m 0) - nI (x.1 (qp p) * m / sm4 x.1 (qp p)) = nI (yv x.1 (qp p) m 0 - x.1 (qp p) * m / sm4 x.1 (qp p)) := pk_sub yb
      have et : nI (x.1 (qp p) - yv x.1 (qp p) m 0) + nI (x.1 (qp t) + yv x.1 (qp p) m 0) = nI (x.1 (qp p)) + nI (x.1 (qp t)) := by
        rw [nI_add, nI_add]
        congr 1
        omega
      have hd : yv x.1 (qp p) m 0 - x.1 (qp p) * m / sm4 x.1 (qp p) ≤ 1 := by omega
      have hne : ¬ nI (sm4 x.1 (qp p)) = 0 := nI_ne0 (by omega) (by omega)
      refine ⟨_, ?_, hJ'⟩
      dsimp only
      rw [if_pos (show nI (sm4 x.1 (qp t) + m) ≤ (81 : Int32) from nI_le (b := 81) hh (by omega)), if_pos (show nI (sm4 x.1 (qp t) + m) = nI (sm4 x.1 (qp t) + m) from rfl), cl_e (p_4 hJ'.1 hc hp), q3, if_pos (show nI (sm4 x.1 (qp p) - m) = nI (sm4 x.1 (qp p)) - nI m from (pk_sub hle).symm), cl_e (p_0 hJ'.1 hc hp), q1, cl_e (p_0 hJ'.1 hc ht), q2, if_pos et, cl_e (p_0 hJ'.1 hc ht), q2, em, dv_n hne, ed, es, es2, if_neg (nI_pos (by omega)), cl_e (p_0 hJ'.1 hc ht), q2, dv_n hne, ed, es, es2, if_neg (show ¬ (1 : Int32) < nI (yv x.1 (qp p) m 0 - x.1 (qp p) * m / sm4 x.1 (qp p)) from nI_nlt (a := 1) hd (by omega))]
    · have eR : pourR x.1 p t m = (-4, x.1) := (if_neg hpt).trans ((if_pos hle).trans (if_neg hh))
      rw [eR]
      refine ⟨_, ?_, J_chg (x := x) (R := (-4, x.1)) (I.mono (Nat.le_succ c)) hB hs⟩
      dsimp only
      rw [if_neg (show ¬ nI (sm4 x.1 (qp t) + m) ≤ (81 : Int32) from nI_ge (a := 81) (by omega) (by omega)), if_pos (show (-4 : Int32) = -4 from rfl)]
  · have eR : pourR x.1 p t m = (-5, x.1) := (if_neg hpt).trans (if_neg hle)
    rw [eR]
    refine ⟨_, ?_, J_chg (x := x) (R := (-5, x.1)) (I.mono (Nat.le_succ c)) hB hs⟩
    dsimp only
    rw [if_neg (show ¬ nI m ≤ nI (sm4 x.1 (qp p)) from nI_ge (by omega) (by omega)), if_pos (show (-5 : Int32) = -5 from rfl)]
set_option maxHeartbeats 4000000 in
theorem act_3 {x : Ab} {c p t m n : Nat} (hJ : J x c) (hc : c + 1 ≤ 2 ^ 28) (hn : n < 2 ^ 31) (hp : p < 8) (ht : t < 8) (hm1 : 1 ≤ m) (hm : m ≤ 30) : ∃ x' : Ab, t_3 x (nI p) (nI t) (nI m) (nI (sm4 x.1 (qp p))) (nI (sm4 x.1 47)) (nI n) = some (1, x') ∧ J x' (c + 1) := by
  obtain ⟨I, hB, hs⟩ := hJ
  have hc0 : c ≤ 2 ^ 28 := by omega
  have h81 := sm4_81 I hp
  have h9 := I.2.2.2.1
  have eq := qp8 hp
  unfold t_3
  have hd9 : n / 2 ^ 10 % 9 < 9 := Nat.mod_lt _ (by omega)
  rw [rsh (s := (10 : Int32) &&& 31) (D := 9) (k := 10) (d := 9) hn (by decide +kernel) rfl (by omega) (by omega), show (1 : Int32) + nI (n / 2 ^ 10 % 9) = nI (1 + n / 2 ^ 10 % 9) from nI_add 1 _, nm_e']
  have hd1 : 1 ≤ 1 + n / 2 ^ 10 % 9 := by omega
  have hd2 : 1 + n / 2 ^ 10 % 9 ≤ 9 := by omega
  generalize 1 + n / 2 ^ 10 % 9 = d at hd1 hd2 ⊢
  have ea : nI (sm4 x.1 47) + nI d = nI (sm4 x.1 47 + d) := nI_add _ _
  have e47 : qp 8 = 47 := rfl
  rw [cl_e (a_dip_n I hc0 hp hd1 hd2), ea]
  by_cases hle : d ≤ sm4 x.1 (qp p)
  · rw [if_pos (show nI d ≤ nI (sm4 x.1 (qp p)) from nI_le hle (by omega))]
    by_cases hh : sm4 x.1 (qp 8) + d ≤ 9
    · have eR : dipR x.1 p d = (nI (sm4 x.1 (qp 8) + d), moveN x.1 p 8 d) := (if_pos hle).trans (if_pos hh)
      rw [eR]
      obtain ⟨i1, b1⟩ := I_move I hB hp (show 8 < 9 by omega) (show p ≠ 8 by omega) (by omega) hle (by simpa using hh)
      have hJ' := J_chg (x := x) (R := (nI (sm4 x.1 (qp 8) + d), moveN x.1 p 8 d)) (i1.mono (Nat.le_succ c)) b1 hs
      obtain ⟨sp, st, -⟩ := mv_p (N := x.1) (show p < 9 by omega) (show 8 < 9 by omega) (show p ≠ 8 by omega) (show 0 < d by omega) hle
      have q3 : sm4 (chgA x (nI (sm4 x.1 (qp 8) + d), moveN x.1 p 8 d)).1 (qp p) = sm4 x.1 (qp p) - d := sp
      refine ⟨_, ?_, hJ'⟩
      dsimp only
      rw [if_pos (show nI (sm4 x.1 47 + d) ≤ (9 : Int32) from nI_le (b := 9) hh (by omega)), if_pos (show nI (sm4 x.1 (qp 8) + d) = nI (sm4 x.1 47 + d) from rfl), cl_e (p_4 hJ'.1 hc hp), q3, if_pos (show nI (sm4 x.1 (qp p) - d) = nI (sm4 x.1 (qp p)) - nI d from (pk_sub hle).symm)]
    · have eR : dipR x.1 p d = (-4, x.1) := (if_pos hle).trans (if_neg hh)
      rw [e47] at hh
      rw [eR]
      refine ⟨_, ?_, J_chg (x := x) (R := (-4, x.1)) (I.mono (Nat.le_succ c)) hB hs⟩
      dsimp only
      rw [if_neg (show ¬ nI (sm4 x.1 47 + d) ≤ (9 : Int32) from nI_ge (a := 9) (by omega) (by omega)), if_pos (show (-4 : Int32) = -4 from rfl)]
  · have eR : dipR x.1 p d = (-5, x.1) := if_neg hle
    rw [eR]
    refine ⟨_, ?_, J_chg (x := x) (R := (-5, x.1)) (I.mono (Nat.le_succ c)) hB hs⟩
    dsimp only
    rw [if_neg (show ¬ nI d ≤ nI (sm4 x.1 (qp p)) from nI_ge (by omega) (by omega)), if_pos (show (-5 : Int32) = -5 from rfl)]
set_option maxHeartbeats 4000000 in
theorem act_4 {x : Ab} {c p t m n : Nat} (hJ : J x c) (hc : c + 1 ≤ 2 ^ 28) (hn : n < 2 ^ 31) (hp : p < 8) (ht : t < 8) (hm1 : 1 ≤ m) (hm : m ≤ 30) : ∃ x' : Ab, t_4 x (nI p) (nI t) (nI m) (nI (sm4 x.1 (qp p))) (nI (sm4 x.1 47)) (nI n) = some (1, x') ∧ J x' (c + 1) := by
  obtain ⟨I, hB, hs⟩ := hJ
  have hc0 : c ≤ 2 ^ 28 := by omega
  have h81 := sm4_81 I hp
  have h9 := I.2.2.2.1
  have eq := qp8 hp
  unfold t_4
  have hu : n / 2 ^ 4 % 6 < 6 := Nat.mod_lt _ (by omega)
  rw [rsh (s := (4 : Int32) &&& 31) (D := 6) (k := 4) (d := 6) hn (by decide +kernel) rfl (by omega) (by omega)]
  generalize n / 2 ^ 4 % 6 = u at hu ⊢
  have h0a := I.1.1
  have h0b := I.1.2
  obtain ⟨g1, g2, g3, g4, g5, g6, g7, g8, g9⟩ := I.2.2.2.2.1 u hu
  rw [cl_e (b_5 I hc0), cl_e (l_8 I hc0 hu), cl_e (a_paint_n I hc0 hu)]
  by_cases hle : x.1 0 ≤ sm4 x.1 47
  · have eR : paintR x.1 u = (nI (dst x.1 u (stg x.1 47 0) (stg x.1 47 1) (stg x.1 47 2)), pntN x.1 u) := if_pos hle
    rw [eR]
    obtain ⟨i1, b1, s47⟩ := I_paint I hB hu hle
    have hJ' := J_chg (x := x) (R := (nI (dst x.1 u (stg x.1 47 0) (stg x.1 47 1) (stg x.1 47 2)), pntN x.1 u)) i1 b1 hs
    have hv := pn3_v x.1 u
    have v : ∀ j, 51 ≤ j → (chgA x (nI (dst x.1 u (stg x.1 47 0) (stg x.1 47 1) (stg x.1 47 2)), pntN x.1 u)).1 j = pn3 x.1 u j := fun j hj => pn6_n hj
    have q0 : (chgA x (nI (dst x.1 u (stg x.1 47 0) (stg x.1 47 1) (stg x.1 47 2)), pntN x.1 u)).1 0 = x.1 0 := by
      show pn6 x.1 u (yv (pn3 x.1 u) 47 (x.1 0)) 0 = _
      exact pn6_m (by omega) (by omega) (by omega)
    have q1 : (chgA x (nI (dst x.1 u (stg x.1 47 0) (stg x.1 47 1) (stg x.1 47 2)), pntN x.1 u)).1 (54 + 8 * u) = 1 := (v _ (by omega)).trans hv.1
    have q2 : (chgA x (nI (dst x.1 u (stg x.1 47 0) (stg x.1 47 1) (stg x.1 47 2)), pntN x.1 u)).1 (55 + 8 * u) = stg x.1 47 0 := (v _ (by omega)).trans hv.2.1
    have q3 : (chgA x (nI (dst x.1 u (stg x.1 47 0) (stg x.1 47 1) (stg x.1 47 2)), pntN x.1 u)).1 (56 + 8 * u) = stg x.1 47 1 := (v _ (by omega)).trans hv.2.2.1
    have q4 : (chgA x (nI (dst x.1 u (stg x.1 47 0) (stg x.1 47 1) (stg x.1 47 2)), pntN x.1 u)).1 (57 + 8 * u) = stg x.1 47 2 := (v _ (by omega)).trans hv.2.2.2.1
    have q5 : (chgA x (nI (dst x.1 u (stg x.1 47 0) (stg x.1 47 1) (stg x.1 47 2)), pntN x.1 u)).1 (58 + 8 * u) = x.1 (58 + 8 * u) + 1 := (v _ (by omega)).trans hv.2.2.2.2
    have q6 : sm4 (chgA x (nI (dst x.1 u (stg x.1 47 0) (stg x.1 47 1) (stg x.1 47 2)), pntN x.1 u)).1 47 = sm4 x.1 47 - x.1 0 := s47
    have q7 : dst (chgA x (nI (dst x.1 u (stg x.1 47 0) (stg x.1 47 1) (stg x.1 47 2)), pntN x.1 u)).1 u (stg x.1 47 0) (stg x.1 47 1) (stg x.1 47 2) = dst x.1 u (stg x.1 47 0) (stg x.1 47 1) (stg x.1 47 2) := dst_eq ((v _ (by omega)).trans (pn3_n (by omega))) ((v _ (by omega)).trans (pn3_n (by omega))) ((v _ (by omega)).trans (pn3_n (by omega)))
    have c0 := c_0 hJ'.1 hc
    have k6 := l_6 hJ'.1 hc hu
    have k3 := l_3 hJ'.1 hc hu
    have k8 := l_8 hJ'.1 hc hu
    have k4 := b_4 hJ'.1 hc
    rw [q0] at c0
    rw [if_neg (show ¬ (chgA x (nI (dst x.1 u (stg x.1 47 0) (stg x.1 47 1) (stg x.1 47 2)), pntN x.1 u)).1 (54 + 8 * u) = 0 by rw [q1]; omega), q2, q3, q4, q7] at k6
    rw [if_neg (show ¬ (chgA x (nI (dst x.1 u (stg x.1 47 0) (stg x.1 47 1) (stg x.1 47 2)), pntN x.1 u)).1 (54 + 8 * u) = 0 by rw [q1]; omega), q2] at k3
    rw [q5] at k8
    rw [q6] at k4
    refine ⟨_, ?_, hJ'⟩
    dsimp only
    rw [cl_e c0, if_pos (show nI (x.1 0) ≤ nI (sm4 x.1 47) from nI_le hle (by omega)), cl_e k6, if_pos (show nI (dst x.1 u (stg x.1 47 0) (stg x.1 47 1) (stg x.1 47 2)) = nI (dst x.1 u (stg x.1 47 0) (stg x.1 47 1) (stg x.1 47 2)) from rfl), cl_e k3, if_neg (show ¬ sm4 x.1 47 = 0 by omega), if_pos (show nI (stg x.1 47 0) = nI (stg x.1 47 0) from rfl), cl_e k4, cl_e c0, if_pos (show nI (sm4 x.1 47 - x.1 0) = nI (sm4 x.1 47) - nI (x.1 0) from (pk_sub hle).symm), cl_e k8, if_pos (show nI (x.1 (58 + 8 * u) + 1) = nI (x.1 (58 + 8 * u)) + 1 from (nI_1 _).symm)]
  · have eR : paintR x.1 u = (-5, x.1) := if_neg hle
    rw [eR]
    have hJ' := J_chg (x := x) (R := (-5, x.1)) (I.mono (Nat.le_succ c)) hB hs
    have c0 : a_count (chgA x (-5, x.1)) 0 = some (nI (x.1 0)) := c_0 hJ'.1 hc
    refine ⟨_, ?_, hJ'⟩
    dsimp only
    rw [cl_e c0, if_neg (show ¬ nI (x.1 0) ≤ nI (sm4 x.1 47) from nI_ge (by omega) (by omega)), if_pos (show (-5 : Int32) = -5 from rfl)]
set_option maxHeartbeats 4000000 in
theorem act_5 {x : Ab} {c p t m n : Nat} (hJ : J x c) (hc : c + 1 ≤ 2 ^ 28) (hn : n < 2 ^ 31) (hp : p < 8) (ht : t < 8) (hm1 : 1 ≤ m) (hm : m ≤ 30) : ∃ x' : Ab, t_5 x (nI p) (nI t) (nI m) (nI (sm4 x.1 (qp p))) (nI (sm4 x.1 47)) (nI n) = some (1, x') ∧ J x' (c + 1) := by
  obtain ⟨I, hB, hs⟩ := hJ
  have hc0 : c ≤ 2 ^ 28 := by omega
  have h81 := sm4_81 I hp
  have h9 := I.2.2.2.1
  have eq := qp8 hp
  unfold t_5
  rw [cl_e (c_5 I hc0), rsh (s := (4 : Int32) &&& 31) (D := 3) (k := 4) (d := 3) hn (by decide +kernel) rfl (by omega) (by omega)]
  by_cases hz : n / 2 ^ 4 % 3 = 0
  · rw [hz, if_pos nI_0, cl_e (a_empty_n I hc0 hp)]
    obtain ⟨i1, b1⟩ := I_sink I hB (p := p) (by omega)
    obtain ⟨s0, so, s4', sn⟩ := sk_v (N := x.1) (p := p) (by omega)
    have hJ' : J (chgA x (emptyR x.1 p)) (c + 1) := J_chg (i1.mono (Nat.le_succ c)) b1 hs
    have k5 := c_5 hJ'.1 hc
    have k4 := p_4 hJ'.1 hc hp
    rw [show (chgA x (emptyR x.1 p)).1 4 = x.1 4 + sm4 x.1 (qp p) from s4'] at k5
    rw [show sm4 (chgA x (emptyR x.1 p)).1 (qp p) = 0 from s0] at k4
    refine ⟨_, ?_, hJ'⟩
    dsimp only
    rw [if_pos (show (emptyR x.1 p).1 = nI (sm4 x.1 (qp p)) from rfl), cl_e k5, if_pos (show nI (x.1 4 + sm4 x.1 (qp p)) = nI (x.1 4) + nI (sm4 x.1 (qp p)) from (nI_add _ _).symm), cl_e k4, if_pos nI_0]
  · have hz3 : n / 2 ^ 4 % 3 < 3 := Nat.mod_lt _ (by omega)
    rw [if_neg (show ¬ nI (n / 2 ^ 4 % 3) = 0 from nI_ne0 (by omega) (by omega)), cl_e (a_rinse_n I hc0)]
    obtain ⟨i1, b1⟩ := I_rinse I hB
    obtain ⟨s0, so, s4', sn⟩ := sk_v (N := x.1) (p := 8) (by omega)
    have hJ' : J (chgA x (rinseR x.1)) (c + 1) := J_chg (i1.mono (Nat.le_succ c)) b1 hs
    have v47 : sm4 (chgA x (rinseR x.1)).1 47 = 0 := by
      show sm4 (upN (skN x.1 8) 6 (x.1 6 + (if sm4 x.1 47 = 0 then 0 else 1))) 47 = 0
      rw [sm4_off (by omega)]
      exact s0
    have v4 : (chgA x (rinseR x.1)).1 4 = x.1 4 + sm4 x.1 47 := by
      show upN (skN x.1 8) 6 (x.1 6 + (if sm4 x.1 47 = 0 then 0 else 1)) 4 = _
      rw [upN_n (by omega)]
      exact s4'
    have k4 := b_4 hJ'.1 hc
    have k5 := c_5 hJ'.1 hc
    have k6 := b_5 hJ'.1 hc
    rw [v47] at k4
    rw [v4] at k5
    rw [if_pos v47] at k6
    refine ⟨_, ?_, hJ'⟩
    dsimp only
    rw [if_pos (show (rinseR x.1).1 = nI (sm4 x.1 47) from rfl), cl_e k4, if_pos nI_0, cl_e k5, if_pos (show nI (x.1 4 + sm4 x.1 47) = nI (x.1 4) + nI (sm4 x.1 47) from (nI_add _ _).symm), cl_e k6, if_pos (show (-6 : Int32) = -6 from rfl)]
set_option maxHeartbeats 4000000 in
theorem act_6 {x : Ab} {c p t m n : Nat} (hJ : J x c) (hc : c + 1 ≤ 2 ^ 28) (hn : n < 2 ^ 31) (hp : p < 8) (ht : t < 8) (hm1 : 1 ≤ m) (hm : m ≤ 30) : ∃ x' : Ab, t_6 x (nI p) (nI t) (nI m) (nI (sm4 x.1 (qp p))) (nI (sm4 x.1 47)) (nI n) = some (1, x') ∧ J x' (c + 1) := by
  obtain ⟨I, hB, hs⟩ := hJ
  have hc0 : c ≤ 2 ^ 28 := by omega
  have h81 := sm4_81 I hp
  have h9 := I.2.2.2.1
  have eq := qp8 hp
  unfold t_6
  have hu : n / 2 ^ 4 % 6 < 6 := Nat.mod_lt _ (by omega)
  have ha : n / 2 ^ 7 % 101 < 101 := Nat.mod_lt _ (by omega)
  have hb : n / 2 ^ 14 % 101 < 101 := Nat.mod_lt _ (by omega)
  have hd : n / 2 ^ 21 % 101 < 101 := Nat.mod_lt _ (by omega)
  rw [rsh (s := (4 : Int32) &&& 31) (D := 6) (k := 4) (d := 6) hn (by decide +kernel) rfl (by omega) (by omega), rsh (s := (7 : Int32) &&& 31) (D := 101) (k := 7) (d := 101) hn (by decide +kernel) rfl (by omega) (by omega), rsh (s := (14 : Int32) &&& 31) (D := 101) (k := 14) (d := 101) hn (by decide +kernel) rfl (by omega) (by omega), rsh (s := (21 : Int32) &&& 31) (D := 101) (k := 21) (d := 101) hn (by decide +kernel) rfl (by omega) (by omega), rsh (s := (3 : Int32) &&& 31) (D := 4) (k := 3) (d := 4) hn (by decide +kernel) rfl (by omega) (by omega)]
  generalize n / 2 ^ 4 % 6 = u at hu ⊢
  generalize n / 2 ^ 7 % 101 = a at ha ⊢
  generalize n / 2 ^ 14 % 101 = b at hb ⊢
  generalize n / 2 ^ 21 % 101 = d at hd ⊢
  have hz3 : n / 2 ^ 3 % 4 < 4 := Nat.mod_lt _ (by omega)
  by_cases hz : n / 2 ^ 3 % 4 = 0
  · have ha2 : a % 61 < 61 := Nat.mod_lt _ (by omega)
    have hb2 : b % 9 < 9 := Nat.mod_lt _ (by omega)
    have ra : ∀ {kk : Int32 → Option (Int32 × Ab)}, rmd (nI a) 61 kk = kk (nI (a % 61)) := rmdN (D := 61) (d := 61) (by omega) rfl (by omega) (by omega)
    have rb : ∀ {kk : Int32 → Option (Int32 × Ab)}, rmd (nI b) 9 kk = kk (nI (b % 9)) := rmdN (D := 9) (d := 9) (by omega) rfl (by omega) (by omega)
    obtain ⟨i1, b1⟩ := I_set (i := 1) (v := a % 61) I hB (by omega) (fun q => absurd q (by omega)) (fun _ => by omega)
    have hJ1 : J (chgA x (setR x.1 1 (a % 61))) c := J_chg i1 b1 hs
    have s1 : a_set x 1 (nI (a % 61)) = some ((setR x.1 1 (a % 61)).1, chgA x (setR x.1 1 (a % 61))) := a_set_n I hc0 (i := 1) (v := a % 61) (by omega) (fun q => absurd q (by omega)) (fun _ => by omega)
    obtain ⟨J1, JB1, Js1⟩ := hJ1
    have k1 := c_1 J1 hc0
    rw [show (chgA x (setR x.1 1 (a % 61))).1 1 = a % 61 from (upN_s : upN x.1 1 (a % 61) 1 = a % 61)] at k1
    obtain ⟨i2, b2⟩ := I_set (i := 0) (v := 1 + b % 9) J1 JB1 (by omega) (fun _ => by omega) (fun q => absurd q (by omega))
    have s2 : a_set (chgA x (setR x.1 1 (a % 61))) 0 (nI (1 + b % 9)) = some ((setR (chgA x (setR x.1 1 (a % 61))).1 0 (1 + b % 9)).1, chgA (chgA x (setR x.1 1 (a % 61))) (setR (chgA x (setR x.1 1 (a % 61))).1 0 (1 + b % 9))) := a_set_n J1 hc0 (i := 0) (v := 1 + b % 9) (by omega) (fun _ => by omega) (fun q => absurd q (by omega))
    have hJ2 : J (chgA (chgA x (setR x.1 1 (a % 61))) (setR (chgA x (setR x.1 1 (a % 61))).1 0 (1 + b % 9))) (c + 1) := J_chg (i2.mono (Nat.le_succ c)) b2 Js1
    have k2 := c_0 hJ2.1 hc
    rw [show (chgA (chgA x (setR x.1 1 (a % 61))) (setR (chgA x (setR x.1 1 (a % 61))).1 0 (1 + b % 9))).1 0 = 1 + b % 9 from (upN_s : upN (chgA x (setR x.1 1 (a % 61))).1 0 (1 + b % 9) 0 = 1 + b % 9)] at k2
    have e1b : (1 : Int32) + nI (b % 9) = nI (1 + b % 9) := nI_add 1 _
    have h1 := I.2.1
    have h0a := J1.1.1
    have h0b := J1.1.2
    rw [hz, if_pos nI_0, ra, cl_e s1]
    dsimp only
    rw [if_neg (show ¬ (setR x.1 1 (a % 61)).1 < 0 from nI_pos (show x.1 1 < 2 ^ 31 by omega)), cl_e k1, ra, if_pos (show nI (a % 61) = nI (a % 61) from rfl), rb, e1b, cl_e s2]
    refine ⟨_, ?_, hJ2⟩
    dsimp only
    rw [if_neg (show ¬ (setR (chgA x (setR x.1 1 (a % 61))).1 0 (1 + b % 9)).1 ≤ 0 from nI_nle (show 0 < (chgA x (setR x.1 1 (a % 61))).1 0 by omega) (by omega)), cl_e k2, rb, e1b, if_pos (show nI (1 + b % 9) = nI (1 + b % 9) from rfl)]
  · obtain ⟨i1, b1⟩ := I_want (P := u) (a := a) (b := b) (d := d) I hB hu (by omega) (by omega) (by omega)
    have hJ' : J (chgA x (wantR x.1 u a b d)) (c + 1) := J_chg (i1.mono (Nat.le_succ c)) b1 hs
    obtain ⟨v1, v2, v3⟩ := wnN_v x.1 u a b d
    have k7 := c_7 hJ'.1 hc
    have k1 := l_0 hJ'.1 hc hu
    have k2 := l_1 hJ'.1 hc hu
    have k3 := l_2 hJ'.1 hc hu
    rw [show (chgA x (wantR x.1 u a b d)).1 (51 + 8 * u) = a from v1] at k1
    rw [show (chgA x (wantR x.1 u a b d)).1 (52 + 8 * u) = b from v2] at k2
    rw [show (chgA x (wantR x.1 u a b d)).1 (53 + 8 * u) = d from v3] at k3
    rw [if_neg (show ¬ nI (n / 2 ^ 3 % 4) = 0 from nI_ne0 (by omega) (by omega)), cl_e (a_want_n I hc0 hu (by omega) (by omega) (by omega))]
    refine ⟨_, ?_, hJ'⟩
    dsimp only
    rw [cl_e k7, if_pos (show (wantR x.1 u a b d).1 = nI (su (wl (chgA x (wantR x.1 u a b d)).1) 6) from rfl), cl_e k1, if_pos (show nI a = nI a from rfl), cl_e k2, if_pos (show nI b = nI b from rfl), cl_e k3, if_pos (show nI d = nI d from rfl)]
theorem acts_ok {x : Ab} {c n : Nat} (hJ : J x c) (hc : c + 1 ≤ 2 ^ 28) (hn : n < 2 ^ 31) : ∃ x' : Ab, s_L_acts x (nI n) = some (1, x') ∧ J x' (c + 1) := by
  have hp : n / 2 ^ 4 % 8 < 8 := Nat.mod_lt _ (by omega)
  have ht : n / 2 ^ 7 % 8 < 8 := Nat.mod_lt _ (by omega)
  have hm : n / 2 ^ 10 % 30 < 30 := Nat.mod_lt _ (by omega)
  rw [acts_e hJ.1 (show c ≤ 2 ^ 28 by omega) hn rfl rfl rfl]
  have h11 : n % 11 < 11 := Nat.mod_lt _ (by omega)
  rcases (show n % 11 = 0 ∨ n % 11 = 1 ∨ n % 11 = 2 ∨ n % 11 = 3 ∨ n % 11 = 4 ∨ n % 11 = 5 ∨ n % 11 = 6 ∨ n % 11 = 7 ∨ n % 11 = 8 ∨ n % 11 = 9 ∨ n % 11 = 10 by omega) with e | e | e | e | e | e | e | e | e | e | e
  · rw [e, if_pos (show nI 0 = 0 from rfl)]
    exact act_0 hJ hc hn hp ht (by omega) (by omega)
  · rw [e, if_neg (show ¬ nI 1 = 0 by decide), if_pos (show nI 1 = 1 from rfl)]
    exact act_0 hJ hc hn hp ht (by omega) (by omega)
  · rw [e, if_neg (show ¬ nI 2 = 0 by decide), if_neg (show ¬ nI 2 = 1 by decide), if_pos (show nI 2 = 2 from rfl)]
    exact act_0 hJ hc hn hp ht (by omega) (by omega)
  · rw [e, if_neg (show ¬ nI 3 = 0 by decide), if_neg (show ¬ nI 3 = 1 by decide), if_neg (show ¬ nI 3 = 2 by decide), if_pos (show nI 3 = 3 from rfl)]
    exact act_1 hJ hc hn hp ht (by omega) (by omega)
  · rw [e, if_neg (show ¬ nI 4 = 0 by decide), if_neg (show ¬ nI 4 = 1 by decide), if_neg (show ¬ nI 4 = 2 by decide), if_neg (show ¬ nI 4 = 3 by decide), if_pos (show nI 4 = 4 from rfl)]
    exact act_2 hJ hc hn hp ht (by omega) (by omega)
  · rw [e, if_neg (show ¬ nI 5 = 0 by decide), if_neg (show ¬ nI 5 = 1 by decide), if_neg (show ¬ nI 5 = 2 by decide), if_neg (show ¬ nI 5 = 3 by decide), if_neg (show ¬ nI 5 = 4 by decide), if_pos (show nI 5 = 5 from rfl)]
    exact act_2 hJ hc hn hp ht (by omega) (by omega)
  · rw [e, if_neg (show ¬ nI 6 = 0 by decide), if_neg (show ¬ nI 6 = 1 by decide), if_neg (show ¬ nI 6 = 2 by decide), if_neg (show ¬ nI 6 = 3 by decide), if_neg (show ¬ nI 6 = 4 by decide), if_neg (show ¬ nI 6 = 5 by decide), if_pos (show nI 6 = 6 from rfl)]
    exact act_3 hJ hc hn hp ht (by omega) (by omega)
  · rw [e, if_neg (show ¬ nI 7 = 0 by decide), if_neg (show ¬ nI 7 = 1 by decide), if_neg (show ¬ nI 7 = 2 by decide), if_neg (show ¬ nI 7 = 3 by decide), if_neg (show ¬ nI 7 = 4 by decide), if_neg (show ¬ nI 7 = 5 by decide), if_neg (show ¬ nI 7 = 6 by decide), if_pos (show nI 7 = 7 from rfl)]
    exact act_3 hJ hc hn hp ht (by omega) (by omega)
  · rw [e, if_neg (show ¬ nI 8 = 0 by decide), if_neg (show ¬ nI 8 = 1 by decide), if_neg (show ¬ nI 8 = 2 by decide), if_neg (show ¬ nI 8 = 3 by decide), if_neg (show ¬ nI 8 = 4 by decide), if_neg (show ¬ nI 8 = 5 by decide), if_neg (show ¬ nI 8 = 6 by decide), if_neg (show ¬ nI 8 = 7 by decide), if_pos (show nI 8 = 8 from rfl)]
    exact act_4 hJ hc hn hp ht (by omega) (by omega)
  · rw [e, if_neg (show ¬ nI 9 = 0 by decide), if_neg (show ¬ nI 9 = 1 by decide), if_neg (show ¬ nI 9 = 2 by decide), if_neg (show ¬ nI 9 = 3 by decide), if_neg (show ¬ nI 9 = 4 by decide), if_neg (show ¬ nI 9 = 5 by decide), if_neg (show ¬ nI 9 = 6 by decide), if_neg (show ¬ nI 9 = 7 by decide), if_neg (show ¬ nI 9 = 8 by decide), if_pos (show nI 9 = 9 from rfl)]
    exact act_5 hJ hc hn hp ht (by omega) (by omega)
  · rw [e, if_neg (show ¬ nI 10 = 0 by decide), if_neg (show ¬ nI 10 = 1 by decide), if_neg (show ¬ nI 10 = 2 by decide), if_neg (show ¬ nI 10 = 3 by decide), if_neg (show ¬ nI 10 = 4 by decide), if_neg (show ¬ nI 10 = 5 by decide), if_neg (show ¬ nI 10 = 6 by decide), if_neg (show ¬ nI 10 = 7 by decide), if_neg (show ¬ nI 10 = 8 by decide), if_neg (show ¬ nI 10 = 9 by decide)]
    exact act_6 hJ hc hn hp ht (by omega) (by omega)
