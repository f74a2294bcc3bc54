-- numbers between two: told as the class tells it
def s_X5_in (u0 : Int32) (u1 : Int32) (u2 : Int32) : Option (Int32) := if u0 < u1 then (some 0) else (if u2 < u0 then (some 0) else (some 1))
-- pure: numbers, reads and writes of rows
theorem q_lit (n : Nat) : (OfNat.ofNat n : Int32) = nI n := rfl
theorem ld_n {β : Type} {n a : Nat} {f : Nat → Int32} {k : Int32 → Option β} (h : a < n) (hn : n < 2 ^ 31) : ld n f (nI a) k = k (f a) := by
  unfold ld
  rw [nI_clamp (by omega), if_neg (fun q => q.elim (nI_pos (by omega)) (by omega))]
theorem sto_n {β : Type} {n a : Nat} {f : Nat → Int32} {x : Int32} {k : (Nat → Int32) → Option β} (h : a < n) (hn : n < 2 ^ 31) : sto n f (nI a) x k = k (upd f a x) := by
  unfold sto
  rw [nI_clamp (by omega), if_neg (fun q => q.elim (nI_pos (by omega)) (by omega))]
theorem ldq_n {β : Type} {n a : Nat} {f : Nat → Option Nat} {k : Option Nat → Option β} (h : a < n) (hn : n < 2 ^ 31) : ldq n f (nI a) k = k (f a) := by
  unfold ldq
  rw [nI_clamp (by omega), if_neg (fun q => q.elim (nI_pos (by omega)) (by omega))]
theorem nm_e' {α β : Type} {x : α} {k : α → Option β} : nm x k = k x := rfl
theorem cl_s {α β : Type} {x : α} {k : α → Option β} : cl (some x) k = k x := rfl
theorem cl_e {α β : Type} {o : Option α} {x : α} {k : α → Option β} (h : o = some x) : cl o k = k x := by rw [h]; rfl
theorem dv_n {β : Type} {x y : Int32} {k : Int32 → Option β} (h : ¬ y = 0) : dv x y k = k (x / y) := if_neg h
theorem rmd_n {β : Type} {x y : Int32} {k : Int32 → Option β} (h : ¬ y = 0) : rmd x y k = k (x - x / y * y) := if_neg h
theorem at_n {n a : Nat} {f : Nat → Int32} (h : a < n) (hn : n < 2 ^ 31) : s_X4_at n f (nI a) = some (f a) := by
  unfold s_X4_at
  rw [if_neg (nI_pos (by omega)), if_pos (show nI a < Int32.ofNat n from nI_lt h hn), ld_n h hn]
theorem write_n {n a : Nat} {f : Nat → Int32} {v : Int32} (h : a < n) (hn : n < 2 ^ 31) : s_X4_write n f (nI a) v = some (upd f a v) := by
  unfold s_X4_write
  rw [if_neg (nI_pos (by omega)), if_neg (show ¬ Int32.ofNat n ≤ nI a from nI_ge h hn), sto_n h hn]
theorem add_n {n a : Nat} {f : Nat → Int32} {v : Int32} (h : a < n) (hn : n < 2 ^ 31) : s_X4_add n f (nI a) v = some (upd f a (f a + v)) := by
  unfold s_X4_add
  rw [cl_e (at_n h hn), cl_e (write_n h hn)]
theorem within_lt {x m : Int32} (h : x < 0) : s_X4_isWithin x m = some 0 := if_pos h
theorem within_ge {x m : Int32} (h : m ≤ x) : s_X4_isWithin x m = some 0 := by
  unfold s_X4_isWithin
  by_cases h0 : x < 0
  · rw [if_pos h0]
  · rw [if_neg h0, if_pos h]
theorem within_n {a n : Nat} (h : a < n) (hn : n < 2 ^ 31) : s_X4_isWithin (nI a) (nI n) = some 1 := by
  unfold s_X4_isWithin
  rw [if_neg (nI_pos (by omega)), if_neg (nI_ge h hn)]
theorem in_lt {x lo hi : Int32} (h : x < lo) : s_X5_in x lo hi = some 0 := by
  unfold s_X5_in
  have : ¬ lo ≤ x := fun q => by
    have := Int32.lt_of_lt_of_le h q
    exact absurd this (Int32.lt_irrefl)
  simp [this]
theorem in_gt {x lo hi : Int32} (h : hi < x) : s_X5_in x lo hi = some 0 := by
  unfold s_X5_in
  have : ¬ x ≤ hi := fun q => absurd (Int32.lt_of_lt_of_le h q) (Int32.lt_irrefl)
  simp [this]
theorem bt_in (x lo hi : Int32) : s_X4_isBetween x lo hi = s_X5_in x lo hi := rfl
theorem in_cases (x lo hi : Int32) : (s_X5_in x lo hi = some 0 ∧ (x < lo ∨ hi < x)) ∨ (s_X5_in x lo hi = some 1 ∧ ¬ x < lo ∧ ¬ hi < x) := by
  unfold s_X5_in
  by_cases h1 : x < lo
  · rw [if_pos h1]; exact Or.inl ⟨rfl, Or.inl h1⟩
  · rw [if_neg h1]
    by_cases h2 : hi < x
    · rw [if_pos h2]; exact Or.inl ⟨rfl, Or.inr h2⟩
    · rw [if_neg h2]; exact Or.inr ⟨rfl, h1, h2⟩
theorem rng_n {x : Int32} {a b : Nat} (hb : b < 2 ^ 31) (hab : a ≤ b) (h1 : ¬ x < nI a) (h2 : ¬ nI b < x) : ∃ j, a ≤ j ∧ j ≤ b ∧ x = nI j := by
  have h0 : ¬ x < 0 := fun q => h1 (Int32.lt_of_lt_of_le q (by rw [← nI_0]; exact nI_le (Nat.zero_le a) (by omega)))
  obtain ⟨j, hj, rfl⟩ := nI_of h0
  refine ⟨j, ?_, ?_, rfl⟩
  · rcases Nat.lt_or_ge j a with q | q
    · exact absurd (nI_lt q (by omega)) h1
    · exact q
  · rcases Nat.lt_or_ge b j with q | q
    · exact absurd (nI_lt q (by omega)) h2
    · exact q
theorem within_in (x : Int32) {n : Nat} (hn : n + 1 < 2 ^ 31) : s_X4_isWithin x (nI (n + 1)) = s_X5_in x (nI 0) (nI n) := by
  rcases pk_ix x (n := n + 1) hn with h | h | ⟨j, hj, rfl⟩
  · rw [within_lt h, in_lt (by rw [nI_0]; exact h)]
  · rw [within_ge h, in_gt (Int32.lt_of_lt_of_le (nI_lt (Nat.lt_succ_self n) hn) h)]
  · rw [within_n hj hn]
    rcases in_cases (nI j) (nI 0) (nI n) with ⟨-, h⟩ | ⟨h, -⟩
    · rcases h with h | h
      · exact absurd h (nI_nlt (Nat.zero_le j) (by omega))
      · exact absurd h (nI_nlt (by omega) (by omega))
    · rw [h]
-- pure: the state as numbers; both sides' rows hold it
def dm (k : Nat) : Nat := if k < 32 then 7 + 5 * (k / 4) + k % 4 else 15 + k
def wm (k : Nat) : Nat := 51 + 8 * (k / 3) + k % 3
def qp (p : Nat) : Nat := if p < 8 then 7 + 5 * p else 47
theorem dm_q {p k : Nat} (hp : p < 9) (hk : k < 4) : dm (4 * p + k) = qp p + k := by
  unfold dm qp
  split <;> split <;> omega
theorem dm_lt {k : Nat} (hk : k < 36) : dm k < 51 ∧ 7 ≤ dm k := by
  unfold dm
  split <;> omega
theorem wm_q {p k : Nat} (hk : k < 3) : wm (3 * p + k) = 51 + 8 * p + k := by
  unfold wm
  omega
theorem wm_lt {k : Nat} (hk : k < 18) : wm k < 94 ∧ 51 ≤ wm k := by
  unfold wm
  omega
def RD (d : Nat → Int32) (N : Nat → Nat) : Prop := ∀ k, k < 36 → d k = nI (N (dm k))
def RS (σ : Nat → Nat → Int32) (N : Nat → Nat) : Prop := (∀ k, k < 2 → σ 0 k = nI (N k)) ∧ RD (σ 1) N ∧ (∀ k, k < 8 → σ 2 k = nI (N (11 + 5 * k))) ∧ (∀ k, k < 18 → σ 3 k = nI (N (wm k))) ∧ (∀ k, k < 18 → σ 4 k = nI (N (wm k + 4))) ∧ (∀ k, k < 6 → σ 5 k = nI (N (58 + 8 * k))) ∧ σ 6 0 = nI (N 2) ∧ σ 7 0 = nI (N 3) ∧ σ 8 0 = nI (N 4) ∧ σ 9 0 = nI (N 6)
def sm4 (N : Nat → Nat) (q : Nat) : Nat := N q + N (q + 1) + N (q + 2) + N (q + 3)
def sm6 (N : Nat → Nat) (q : Nat) : Nat := N q + N (q + 8) + N (q + 16) + N (q + 24) + N (q + 32) + N (q + 40)
def Inv (N : Nat → Nat) (c : Nat) : Prop := (1 ≤ N 0 ∧ N 0 ≤ 9) ∧ N 1 ≤ 60 ∧ (∀ p, p < 8 → sm4 N (7 + 5 * p) ≤ 81) ∧ sm4 N 47 ≤ 9 ∧ (∀ p, p < 6 → N (51 + 8 * p) ≤ 100 ∧ N (52 + 8 * p) ≤ 100 ∧ N (53 + 8 * p) ≤ 100 ∧ N (54 + 8 * p) ≤ 1 ∧ N (55 + 8 * p) ≤ 100 ∧ N (56 + 8 * p) ≤ 100 ∧ N (57 + 8 * p) ≤ 100 ∧ N (58 + 8 * p) ≤ c ∧ (N (54 + 8 * p) = 0 ↔ N (58 + 8 * p) = 0)) ∧ N 5 = sm6 N 58
theorem Inv.q {N : Nat → Nat} {c p : Nat} (h : Inv N c) (hp : p < 9) : sm4 N (qp p) ≤ 81 := by
  unfold qp
  split
  · exact h.2.2.1 p (by omega)
  · have := h.2.2.2.1
    omega
def upN (N : Nat → Nat) (j v : Nat) : Nat → Nat := fun k => if k = j then v else N k
theorem upN_s {N : Nat → Nat} {j v : Nat} : upN N j v j = v := if_pos rfl
theorem upN_n {N : Nat → Nat} {j v k : Nat} (h : k ≠ j) : upN N j v k = N k := if_neg h
theorem dm_inj {a b : Nat} (ha : a < 36) (hb : b < 36) (h : dm a = dm b) : a = b := by
  unfold dm at h
  split at h <;> split at h <;> omega
theorem RD.up {d : Nat → Int32} {N : Nat → Nat} (h : RD d N) {k : Nat} (hk : k < 36) (v : Nat) : RD (upd d k (nI v)) (upN N (dm k) v) := by
  intro j hj
  by_cases e : j = k
  · subst e; rw [pk_us, upN_s]
  · rw [pk_un e, upN_n (fun z => e (dm_inj hj hk z))]; exact h j hj
theorem RD.off {d : Nat → Int32} {N : Nat → Nat} (h : RD d N) {j : Nat} (v : Nat) (hj : ∀ k, k < 36 → dm k ≠ j) : RD d (upN N j v) := fun k hk => by
  rw [upN_n (hj k hk)]; exact h k hk
-- reads
theorem cAll {d : Nat → Int32} {N : Nat → Nat} (h : RD d N) {p : Nat} (hp : p < 9) : s_X2_allDrops d (nI p) = some (nI (sm4 N (qp p))) := by
  have e0 : nI p * 4 = nI (4 * p) := (pk_mul p 4).trans (by rw [Nat.mul_comm])
  unfold s_X2_allDrops
  rw [nm_e', e0]
  try dsimp only
  rw [if_neg (nI_pos (by omega)), if_pos (show nI (4 * p) ≤ (32 : Int32) from nI_le (a := 4 * p) (b := 32) (by omega) (by omega))]
  rw [show nI (4 * p) + 1 = nI (4 * p + 1) from nI_add _ 1, show nI (4 * p) + 2 = nI (4 * p + 2) from nI_add _ 2, show nI (4 * p) + 3 = nI (4 * p + 3) from nI_add _ 3]
  rw [ld_n (by omega) (by omega), ld_n (by omega) (by omega), ld_n (by omega) (by omega), ld_n (by omega) (by omega)]
  rw [h _ (by omega), h _ (by omega), h _ (by omega), h _ (by omega), dm_q hp (by omega), dm_q hp (by omega), dm_q hp (by omega)]
  rw [show dm (4 * p) = qp p from dm_q (k := 0) hp (by omega), nI_add, nI_add, nI_add]
  rfl
-- pure: strengths and distances
def ad (a c : Nat) : Nat := if a ≤ c then c - a else a - c
def stg (N : Nat → Nat) (q k : Nat) : Nat := 100 * N (q + k) / sm4 N q
def dst (N : Nat → Nat) (P r y b : Nat) : Nat := ad r (N (51 + 8 * P)) + ad y (N (52 + 8 * P)) + ad b (N (53 + 8 * P))
theorem ad_le {a c m : Nat} (ha : a ≤ m) (hc : c ≤ m) : ad a c ≤ m := by
  unfold ad
  split <;> omega
theorem i_negsub (x y : Int32) : 0 - (x - y) = y - x := by
  rw [Int32.zero_sub, Int32.neg_sub]
theorem abs_c {a c : Nat} (ha : a < 2 ^ 30) (hc : c < 2 ^ 30) : (if 0 ≤ nI a - nI c then nI a - nI c else 0 - (nI a - nI c)) = nI (ad a c) := by
  unfold ad
  rcases Nat.lt_or_ge a c with h | h
  · have h1 := pk_sneg hc h
    have h2 : ¬ (0 : Int32) ≤ nI a - nI c := fun q => absurd (Int32.lt_of_lt_of_le h1 q) Int32.lt_irrefl
    rw [if_neg h2, if_pos (Nat.le_of_lt h), i_negsub, pk_sub (Nat.le_of_lt h)]
  · rw [pk_sub h, if_pos (nI_pos' (by omega))]
    split
    · have : a = c := by omega
      subst this
      rfl
    · rfl
theorem div_c {x : Int32} {b : Nat} (h0 : 0 < b) (hb : b < 2 ^ 31) : s_X4_divide x (nI b) = some (x / nI b) := by
  unfold s_X4_divide
  rw [if_pos (show (0 : Int32) < nI b from nI_lt h0 hb), dv_n (nI_ne0 h0 hb)]
theorem div_0 {x : Int32} : s_X4_divide x (nI 0) = some 0 := rfl
theorem rem_c {x : Int32} {b : Nat} (h0 : 0 < b) (hb : b < 2 ^ 31) : s_X4_remainder x (nI b) = some (x - x / nI b * nI b) := by
  unfold s_X4_remainder
  rw [if_pos (show (0 : Int32) < nI b from nI_lt h0 hb), rmd_n (nI_ne0 h0 hb)]
theorem sm4_ge (N : Nat → Nat) (q : Nat) {k : Nat} (hk : k < 4) : N (q + k) ≤ sm4 N q := by
  unfold sm4
  rcases (show k = 0 ∨ k = 1 ∨ k = 2 ∨ k = 3 by omega) with rfl | rfl | rfl | rfl <;> (try simp only [Nat.add_zero]) <;> omega
theorem stg_le (N : Nat → Nat) (q : Nat) {k : Nat} (hk : k < 4) : stg N q k ≤ 100 := by
  unfold stg
  have h := sm4_ge N q hk
  rcases Nat.eq_zero_or_pos (sm4 N q) with h0 | h0
  · rw [h0, Nat.div_zero]; omega
  · exact Nat.div_le_of_le_mul (by rw [Nat.mul_comm]; exact Nat.mul_le_mul_right 100 h)
theorem cStr {d : Nat → Int32} {N : Nat → Nat} (h : RD d N) {p k : Nat} (hp : p < 9) (hk : k < 4) (h0 : 0 < sm4 N (qp p)) (hb : sm4 N (qp p) ≤ 81) : s_X2_strength d (nI p) (nI k) = some (nI (stg N (qp p) k)) := by
  have e0 : nI p * 4 = nI (4 * p) := (pk_mul p 4).trans (by rw [Nat.mul_comm])
  have hle := sm4_ge N (qp p) hk
  unfold s_X2_strength
  rw [e0, nI_add, cl_e (at_n (by omega) (by omega)), cl_e (cAll h hp), h _ (by omega), dm_q hp hk]
  rw [show (100 : Int32) * nI (N (qp p + k)) = nI (100 * N (qp p + k)) from pk_mul 100 _]
  rw [cl_e (div_c h0 (by omega)), pk_div (by omega) h0 (by omega)]
  rfl
theorem cDist {w : Nat → Int32} {N : Nat → Nat} (h : ∀ k, k < 18 → w k = nI (N (wm k))) {P r y b : Nat} (hP : P < 6) (hr : r < 2 ^ 30) (hy : y < 2 ^ 30) (hb : b < 2 ^ 30) (h1 : N (51 + 8 * P) ≤ 100) (h2 : N (52 + 8 * P) ≤ 100) (h3 : N (53 + 8 * P) ≤ 100) : s_X2_distance w (nI P) (nI r) (nI y) (nI b) = some (nI (dst N P r y b)) := by
  have e0 : nI P * 3 = nI (3 * P) := (pk_mul P 3).trans (by rw [Nat.mul_comm])
  have w0 : wm (3 * P) = 51 + 8 * P := wm_q (k := 0) (by omega)
  have w1 : wm (3 * P + 1) = 52 + 8 * P := (wm_q (k := 1) (by omega)).trans (by omega)
  have w2 : wm (3 * P + 2) = 53 + 8 * P := (wm_q (k := 2) (by omega)).trans (by omega)
  unfold s_X2_distance
  rw [nm_e', e0]
  try dsimp only
  rw [show nI (3 * P) + 1 = nI (3 * P + 1) from nI_add _ 1, show nI (3 * P) + 2 = nI (3 * P + 2) from nI_add _ 2]
  rw [cl_e (at_n (by omega) (by omega)), nm_e', cl_e (at_n (by omega) (by omega)), nm_e', cl_e (at_n (by omega) (by omega)), nm_e']
  rw [h _ (by omega), h _ (by omega), h _ (by omega), w0, w1, w2]
  rw [abs_c hr (by omega), abs_c hy (by omega), abs_c hb (by omega), nI_add, nI_add]
  rfl
theorem cDistPaint {d w : Nat → Int32} {N : Nat → Nat} (hd : RD d N) (h : ∀ k, k < 18 → w k = nI (N (wm k))) {P p : Nat} (hP : P < 6) (hp : p < 9) (h0 : 0 < sm4 N (qp p)) (hb : sm4 N (qp p) ≤ 81) (h1 : N (51 + 8 * P) ≤ 100) (h2 : N (52 + 8 * P) ≤ 100) (h3 : N (53 + 8 * P) ≤ 100) : s_X2_distanceOfPaint d w (nI P) (nI p) = some (nI (dst N P (stg N (qp p) 0) (stg N (qp p) 1) (stg N (qp p) 2))) := by
  have l0 := stg_le N (qp p) (k := 0) (by omega)
  have l1 := stg_le N (qp p) (k := 1) (by omega)
  have l2 := stg_le N (qp p) (k := 2) (by omega)
  unfold s_X2_distanceOfPaint
  rw [show (0 : Int32) = nI 0 from rfl, show (1 : Int32) = nI 1 from rfl, show (2 : Int32) = nI 2 from rfl]
  rw [cl_e (cStr hd hp (by omega) h0 hb), cl_e (cStr hd hp (by omega) h0 hb), cl_e (cStr hd hp (by omega) h0 hb)]
  rw [cl_e (cDist h hP (by omega) (by omega) (by omega) h1 h2 h3)]
theorem cDistPanel {w pa : Nat → Int32} {N : Nat → Nat} (h : ∀ k, k < 18 → w k = nI (N (wm k))) (ha : ∀ k, k < 18 → pa k = nI (N (wm k + 4))) {P : Nat} (hP : P < 6) (h1 : N (51 + 8 * P) ≤ 100) (h2 : N (52 + 8 * P) ≤ 100) (h3 : N (53 + 8 * P) ≤ 100) (h4 : N (55 + 8 * P) ≤ 100) (h5 : N (56 + 8 * P) ≤ 100) (h6 : N (57 + 8 * P) ≤ 100) : s_X2_distanceOfPanel w pa (nI P) = some (nI (dst N P (N (55 + 8 * P)) (N (56 + 8 * P)) (N (57 + 8 * P)))) := by
  have e0 : nI P * 3 = nI (3 * P) := (pk_mul P 3).trans (by rw [Nat.mul_comm])
  have w0 : wm (3 * P) + 4 = 55 + 8 * P := by rw [show wm (3 * P) = _ from wm_q (k := 0) (by omega)]; omega
  have w1 : wm (3 * P + 1) + 4 = 56 + 8 * P := by rw [wm_q (by omega)]; omega
  have w2 : wm (3 * P + 2) + 4 = 57 + 8 * P := by rw [wm_q (by omega)]; omega
  unfold s_X2_distanceOfPanel
  rw [nm_e', e0]
  try dsimp only
  rw [show nI (3 * P) + 1 = nI (3 * P + 1) from nI_add _ 1, show nI (3 * P) + 2 = nI (3 * P + 2) from nI_add _ 2]
  rw [cl_e (at_n (by omega) (by omega)), cl_e (at_n (by omega) (by omega)), cl_e (at_n (by omega) (by omega))]
  rw [ha _ (by omega), ha _ (by omega), ha _ (by omega), w0, w1, w2]
  rw [cl_e (cDist h hP (by omega) (by omega) (by omega) h1 h2 h3)]
-- pure: which kind gives one drop more
def pkc (v : Nat → Nat) : Nat :=
  if v 3 ≤ v (if v 2 ≤ v (if v 1 ≤ v 0 then 0 else 1) then (if v 1 ≤ v 0 then 0 else 1) else 2) then (if v 2 ≤ v (if v 1 ≤ v 0 then 0 else 1) then (if v 1 ≤ v 0 then 0 else 1) else 2) else 3
theorem pkc_lt (v : Nat → Nat) : pkc v < 4 := by
  unfold pkc
  split <;> split <;> (try split) <;> omega
theorem pkc_max (v : Nat → Nat) : ∀ k, k < 4 → v k ≤ v (pkc v) := by
  intro k hk
  have h : v 0 ≤ v (pkc v) ∧ v 1 ≤ v (pkc v) ∧ v 2 ≤ v (pkc v) ∧ v 3 ≤ v (pkc v) := by
    unfold pkc
    by_cases h1 : v 1 ≤ v 0
    · rw [if_pos h1]
      by_cases h2 : v 2 ≤ v 0
      · rw [if_pos h2]
        by_cases h3 : v 3 ≤ v 0
        · rw [if_pos h3]; omega
        · rw [if_neg h3]; omega
      · rw [if_neg h2]
        by_cases h3 : v 3 ≤ v 2
        · rw [if_pos h3]; omega
        · rw [if_neg h3]; omega
    · rw [if_neg h1]
      by_cases h2 : v 2 ≤ v 1
      · rw [if_pos h2]
        by_cases h3 : v 3 ≤ v 1
        · rw [if_pos h3]; omega
        · rw [if_neg h3]; omega
      · rw [if_neg h2]
        by_cases h3 : v 3 ≤ v 2
        · rw [if_pos h3]; omega
        · rw [if_neg h3]; omega
  rcases (show k = 0 ∨ k = 1 ∨ k = 2 ∨ k = 3 by omega) with rfl | rfl | rfl | rfl
  · exact h.1
  · exact h.2.1
  · exact h.2.2.1
  · exact h.2.2.2
theorem m1_le {a b : Nat} (ha : a < 2 ^ 30) (hb : b < 2 ^ 30) : (nI a - 1 ≤ nI b - 1) ↔ a ≤ b := by
  rw [Int32.le_iff_toInt_le, show (1 : Int32) = nI 1 from rfl, pk_sub_toInt ha (by omega), pk_sub_toInt hb (by omega)]
  omega
theorem ite_lt {c : Prop} [Decidable c] {a b n : Nat} (ha : a < n) (hb : b < n) : (if c then a else b) < n := by
  split
  · exact ha
  · exact hb
theorem kMost_s {lo : Nat → Int32} {v : Nat → Nat} {kk : Int32 → Option Int32} (hl : ∀ k, k < 4 → lo k = nI (v k) - 1) (hv : ∀ k, k < 4 → v k < 2 ^ 30) {a i n : Nat} (ha : a < 4) (hi : i < 4) : s_X2_kindWithMostLeftOver_L1 lo kk (n + 1) (nI a, nI i) = s_X2_kindWithMostLeftOver_L1 lo kk n (nI (if v i ≤ v a then a else i), nI (i + 1)) := by
  show s_X2_kindWithMostLeftOver_B1 lo kk (s_X2_kindWithMostLeftOver_L1 lo kk n) (nI a) (nI i) = _
  unfold s_X2_kindWithMostLeftOver_B1
  rw [if_neg (show ¬ (4 : Int32) ≤ nI i from nI_ge (a := i) (b := 4) (by omega) (by omega)), cl_e (at_n hi (by omega)), cl_e (at_n ha (by omega)), hl i hi, hl a ha]
  by_cases h : v i ≤ v a
  · rw [if_pos h, if_pos ((m1_le (hv i hi) (hv a ha)).mpr h), nm_e', nI_1]
  · rw [if_neg h, if_neg (fun q => h ((m1_le (hv i hi) (hv a ha)).mp q)), nm_e', nI_1]
theorem kMost {lo : Nat → Int32} {v : Nat → Nat} (hl : ∀ k, k < 4 → lo k = nI (v k) - 1) (hv : ∀ k, k < 4 → v k < 2 ^ 30) : s_X2_kindWithMostLeftOver lo = some (nI (pkc v)) := by
  have h1 : (if v 1 ≤ v 0 then 0 else 1) < 4 := ite_lt (by omega) (by omega)
  have h2 : (if v 2 ≤ v (if v 1 ≤ v 0 then 0 else 1) then (if v 1 ≤ v 0 then 0 else 1) else 2) < 4 := ite_lt h1 (by omega)
  unfold s_X2_kindWithMostLeftOver
  refine (kMost_s (n := 999) (a := 0) (i := 1) hl hv (by omega) (by omega)).trans ?_
  refine (kMost_s (n := 998) (i := 2) hl hv h1 (by omega)).trans ?_
  refine (kMost_s (n := 997) (i := 3) hl hv h2 (by omega)).trans ?_
  show s_X2_kindWithMostLeftOver_B1 lo _ _ _ (nI 4) = _
  unfold s_X2_kindWithMostLeftOver_B1 s_X2_kindWithMostLeftOver_X1 pkc
  rw [if_pos (show (4 : Int32) ≤ nI 4 from nI_le (a := 4) (b := 4) (by omega) (by omega))]
theorem bit_k : ∀ M : Fin 16, ∀ k : Fin 4, (((nI M.val >>> (nI k.val &&& 31)) &&& 1) = 0 ↔ M.val.testBit k.val = false) := by decide +kernel
theorem bit_o : ∀ M : Fin 16, ∀ k : Fin 4, nI M.val ||| ((1 : Int32) <<< (nI k.val &&& 31)) = nI (M.val ||| 1 <<< k.val) ∧ (M.val ||| 1 <<< k.val) < 16 := by decide +kernel
theorem bit_t : ∀ M : Fin 16, ∀ k : Fin 4, ∀ j : Fin 4, (M.val ||| 1 <<< k.val).testBit j.val = (decide (j = k) || M.val.testBit j.val) := by decide +kernel
theorem le_m1 {a w : Nat} (ha : a < 2 ^ 30) (hw : w < 2 ^ 30) : (nI a ≤ nI w - 1) ↔ a + 1 ≤ w := by
  rw [Int32.le_iff_toInt_le, show (1 : Int32) = nI 1 from rfl, pk_sub_toInt hw (by omega), nI_toInt (by omega)]
  omega
-- pure: drops are taken out of paint
def sv (v : Nat → Nat) : Nat := (v 0 - 1) + (v 1 - 1) + (v 2 - 1) + (v 3 - 1)
def s4 (y : Nat → Nat) : Nat := y 0 + y 1 + y 2 + y 3
theorem four {P : Nat → Prop} (h0 : P 0) (h1 : P 1) (h2 : P 2) (h3 : P 3) : ∀ k, k < 4 → P k := by
  intro k hk
  rcases (show k = 0 ∨ k = 1 ∨ k = 2 ∨ k = 3 by omega) with rfl | rfl | rfl | rfl
  · exact h0
  · exact h1
  · exact h2
  · exact h3
theorem sv_pick {v : Nat → Nat} {c : Nat} (hc : c < 4) : sv (upN v c 0) + (v c - 1) = sv v := by
  unfold sv
  rcases (show c = 0 ∨ c = 1 ∨ c = 2 ∨ c = 3 by omega) with rfl | rfl | rfl | rfl <;> simp only [upN] <;> simp <;> omega
theorem s4_pick {y : Nat → Nat} {c : Nat} (hc : c < 4) : s4 (upN y c (y c + 1)) = s4 y + 1 := by
  unfold s4
  rcases (show c = 0 ∨ c = 1 ∨ c = 2 ∨ c = 3 by omega) with rfl | rfl | rfl | rfl <;> simp only [upN] <;> simp <;> omega
theorem sv_le {v : Nat → Nat} {c : Nat} (h : ∀ k, k < 4 → v k ≤ v c) : sv v ≤ 4 * (v c - 1) := by
  unfold sv
  have h0 := h 0 (by omega)
  have h1 := h 1 (by omega)
  have h2 := h 2 (by omega)
  have h3 := h 3 (by omega)
  omega
theorem cP1_s {d : Nat → Int32} {N : Nat → Nat} (hd : RD d N) {p m : Nat} (hp : p < 9) (hX : ∀ k, k < 4 → N (qp p + k) * m < 2 ^ 30) (hn0 : 0 < sm4 N (qp p)) (hn : sm4 N (qp p) < 2 ^ 29) {kc : Int32 × (Nat → Int32) × (Nat → Int32) → Option ((Nat → Int32) × (Nat → Int32) × (Nat → Int32))} {ms i fu : Nat} {tk lo : Nat → Int32} (hi : i < 4) (hms : N (qp p + i) * m / sm4 N (qp p) ≤ ms) : s_X2_takeOut_L1 d (nI p) (nI m) (nI (sm4 N (qp p))) kc (fu + 1) (nI ms, nI i, tk, lo) = s_X2_takeOut_L1 d (nI p) (nI m) (nI (sm4 N (qp p))) kc fu (nI (ms - N (qp p + i) * m / sm4 N (qp p)), nI (i + 1), upd tk i (nI (N (qp p + i) * m / sm4 N (qp p))), upd lo i (nI (N (qp p + i) * m % sm4 N (qp p)))) := by
  have hX' := hX i hi
  have e0 : nI p * 4 = nI (4 * p) := (pk_mul p 4).trans (by rw [Nat.mul_comm])
  show s_X2_takeOut_B1 d (nI p) (nI m) (nI (sm4 N (qp p))) kc (s_X2_takeOut_L1 d (nI p) (nI m) (nI (sm4 N (qp p))) kc fu) (nI ms) (nI i) tk lo = _
  unfold s_X2_takeOut_B1
  rw [if_neg (show ¬ (4 : Int32) ≤ nI i from nI_ge (a := i) (b := 4) (by omega) (by omega)), e0, nI_add, cl_e (at_n (by omega) (by omega)), nm_e', hd _ (by omega), dm_q hp hi, pk_mul]
  rw [cl_e (div_c hn0 (by omega)), cl_e (write_n hi (by omega)), cl_e (rem_c hn0 (by omega)), cl_e (write_n hi (by omega)), cl_e (at_n hi (by omega)), pk_us, nm_e', nm_e', nI_1, pk_rem (by omega) hn0 (by omega), pk_div (by omega) hn0 (by omega), pk_sub hms]
def tkN (N : Nat → Nat) (q : Nat) (y : Nat → Nat) (i : Nat) : Nat → Nat := fun j => if q ≤ j ∧ j < q + i then N j - y (j - q) else N j
theorem tkN_0 (N : Nat → Nat) (q : Nat) (y : Nat → Nat) : tkN N q y 0 = N := by
  funext j
  unfold tkN
  rw [if_neg (by omega)]
theorem tkN_s (N : Nat → Nat) (q : Nat) (y : Nat → Nat) (i : Nat) : upN (tkN N q y i) (q + i) (N (q + i) - y i) = tkN N q y (i + 1) := by
  funext j
  unfold upN tkN
  by_cases e : j = q + i
  · subst e
    rw [if_pos rfl, if_pos (by omega), show q + i - q = i by omega]
  · rw [if_neg e]
    by_cases h : q ≤ j ∧ j < q + i
    · rw [if_pos h, if_pos (by omega)]
    · rw [if_neg h, if_neg (by omega)]
theorem tkN_at (N : Nat → Nat) (q : Nat) (y : Nat → Nat) (i : Nat) : tkN N q y i (q + i) = N (q + i) := by
  unfold tkN
  rw [if_neg (by omega)]
theorem i_addneg (x y : Int32) : x + -y = x - y := (Int32.sub_eq_add_neg x y).symm
theorem cP3_s {tk d : Nat → Int32} {N y : Nat → Nat} {p i fu : Nat} {kc : (Nat → Int32) → Option ((Nat → Int32) × (Nat → Int32) × (Nat → Int32))} (hp : p < 9) (hi : i < 4) (ht : tk i = nI (y i)) (hy : y i ≤ N (qp p + i)) (hd : RD d (tkN N (qp p) y i)) : ∃ d', RD d' (tkN N (qp p) y (i + 1)) ∧ s_X2_takeOut_L3 tk (nI p) kc (fu + 1) (nI i, d) = s_X2_takeOut_L3 tk (nI p) kc fu (nI (i + 1), d') := by
  have e0 : nI p * 4 = nI (4 * p) := (pk_mul p 4).trans (by rw [Nat.mul_comm])
  have h1 := hd.up (k := 4 * p + i) (by omega) (N (qp p + i) - y i)
  rw [dm_q hp hi, tkN_s] at h1
  refine ⟨_, h1, ?_⟩
  show s_X2_takeOut_B3 tk (nI p) kc (s_X2_takeOut_L3 tk (nI p) kc fu) (nI i) d = _
  unfold s_X2_takeOut_B3
  rw [if_neg (show ¬ (4 : Int32) ≤ nI i from nI_ge (a := i) (b := 4) (by omega) (by omega)), e0, nI_add, cl_e (at_n hi (by omega)), cl_e (add_n (by omega) (by omega)), nm_e', nI_1, ht, hd _ (by omega), dm_q hp hi, tkN_at, i_addneg, pk_sub hy]
theorem q_sum {X : Nat → Nat} {n m : Nat} (hn : n = s4 X) (hn0 : 0 < n) : s4 (fun k => X k * m / n) ≤ m ∧ m - s4 (fun k => X k * m / n) ≤ 3 ∧ n * (m - s4 (fun k => X k * m / n)) = s4 (fun k => X k * m % n) := by
  have e : ∀ k, n * (X k * m / n) + X k * m % n = X k * m := fun k => Nat.div_add_mod _ _
  have r : ∀ k, X k * m % n < n := fun k => Nat.mod_lt _ hn0
  have e0 := e 0
  have e1 := e 1
  have e2 := e 2
  have e3 := e 3
  have r0 := r 0
  have r1 := r 1
  have r2 := r 2
  have r3 := r 3
  have hs : n * s4 (fun k => X k * m / n) + s4 (fun k => X k * m % n) = n * m := by
    show n * (X 0 * m / n + X 1 * m / n + X 2 * m / n + X 3 * m / n) + (X 0 * m % n + X 1 * m % n + X 2 * m % n + X 3 * m % n) = n * m
    have : n * m = X 0 * m + X 1 * m + X 2 * m + X 3 * m := by
      rw [hn]
      unfold s4
      rw [Nat.add_mul, Nat.add_mul, Nat.add_mul]
    rw [Nat.mul_add, Nat.mul_add, Nat.mul_add, this]
    omega
  have hr : s4 (fun k => X k * m % n) < n * 4 := by
    show X 0 * m % n + X 1 * m % n + X 2 * m % n + X 3 * m % n < n * 4
    omega
  have hle : s4 (fun k => X k * m / n) ≤ m := by
    rcases Nat.lt_or_ge m (s4 (fun k => X k * m / n)) with h | h
    · exfalso
      have := Nat.mul_le_mul_left n h
      rw [Nat.mul_succ] at this
      omega
    · exact h
  have hd : n * (m - s4 (fun k => X k * m / n)) = s4 (fun k => X k * m % n) := by
    rw [Nat.mul_sub]
    omega
  refine ⟨hle, ?_, hd⟩
  rcases Nat.lt_or_ge 3 (m - s4 (fun k => X k * m / n)) with h | h
  · exfalso
    have := Nat.mul_le_mul_left n h
    omega
  · exact h
theorem q_le {x n m : Nat} (hx : x ≤ n) (hm : m ≤ n) (hn0 : 0 < n) : x * m / n + (if 1 < x * m % n + 1 then 1 else 0) ≤ x := by
  have e : n * (x * m / n) + x * m % n = x * m := Nat.div_add_mod _ _
  have h1 : x * m ≤ x * n := Nat.mul_le_mul_left x hm
  have h2 : x * n = n * x := Nat.mul_comm _ _
  by_cases h : 1 < x * m % n + 1
  · rw [if_pos h]
    rcases Nat.lt_or_ge x (x * m / n + 1) with q | q
    · exfalso
      have h3 : n * x ≤ n * (x * m / n) := Nat.mul_le_mul_left n (by omega)
      omega
    · exact q
  · rw [if_neg h]
    exact Nat.div_le_of_le_mul (by omega)
-- pure: one row of the state changes
theorem va_up_s {α : Type} {f : Nat → α} {k : Nat} {v : α} : va_up f k v k = v := va_up_self f k v
theorem va_up_n {α : Type} {f : Nat → α} {k j : Nat} {v : α} (h : j ≠ k) : va_up f k v j = f j := va_up_ne f v h
theorem RS.frame {σ : Nat → Nat → Int32} {N N' : Nat → Nat} (h : RS σ N) (hN : ∀ j, j < 99 → N' j = N j) : RS σ N' := by
  obtain ⟨h0, h1, h2, h3, h4, h5, h6, h7, h8, h9⟩ := h
  refine ⟨fun k hk => by rw [hN _ (by omega)]; exact h0 k hk, fun k hk => ?_, fun k hk => by rw [hN _ (by omega)]; exact h2 k hk, fun k hk => ?_, fun k hk => ?_, fun k hk => by rw [hN _ (by omega)]; exact h5 k hk, by rw [hN _ (by omega)]; exact h6, by rw [hN _ (by omega)]; exact h7, by rw [hN _ (by omega)]; exact h8, by rw [hN _ (by omega)]; exact h9⟩
  · have := dm_lt hk
    rw [hN _ (by omega)]; exact h1 k hk
  · have := wm_lt hk
    rw [hN _ (by omega)]; exact h3 k hk
  · have := wm_lt hk
    rw [hN _ (by omega)]; exact h4 k hk
/-- new drops, and nothing else -/
theorem RS.ofD {σ : Nat → Nat → Int32} {N N' : Nat → Nat} {d : Nat → Int32} (h : RS σ N) (hd : RD d N') (hN : ∀ j, j < 99 → (∀ k, k < 36 → dm k ≠ j) → N' j = N j) : RS (va_up σ 1 d) N' := by
  obtain ⟨h0, h1, h2, h3, h4, h5, h6, h7, h8, h9⟩ := h
  have o1 : ∀ j, j < 7 → N' j = N j := fun j hj => hN j (by omega) (fun k hk => by have := dm_lt hk; omega)
  have o2 : ∀ j, j < 99 → 51 ≤ j → N' j = N j := fun j hj hj2 => hN j hj (fun k hk => by have := dm_lt hk; omega)
  have o3 : ∀ k, k < 8 → N' (11 + 5 * k) = N (11 + 5 * k) := fun k hk => hN _ (by omega) (fun i hi => by unfold dm; split <;> omega)
  refine ⟨fun k hk => ?_, ?_, fun k hk => ?_, fun k hk => ?_, fun k hk => ?_, fun k hk => ?_, ?_, ?_, ?_, ?_⟩
  · rw [va_up_n (by omega), o1 _ (by omega)]; exact h0 k hk
  · rw [va_up_s]; exact hd
  · rw [va_up_n (by omega), o3 k hk]; exact h2 k hk
  · have := wm_lt hk
    rw [va_up_n (by omega), o2 _ (by omega) (by omega)]; exact h3 k hk
  · have := wm_lt hk
    rw [va_up_n (by omega), o2 _ (by omega) (by omega)]; exact h4 k hk
  · rw [va_up_n (by omega), o2 _ (by omega) (by omega)]; exact h5 k hk
  · rw [va_up_n (by omega), o1 _ (by omega)]; exact h6
  · rw [va_up_n (by omega), o1 _ (by omega)]; exact h7
  · rw [va_up_n (by omega), o1 _ (by omega)]; exact h8
  · rw [va_up_n (by omega), o1 _ (by omega)]; exact h9
/-- a number of the accounts -/
theorem RS.ofC {σ : Nat → Nat → Int32} {N : Nat → Nat} (h : RS σ N) (i j v : Nat) (hij : (i = 6 ∧ j = 2) ∨ (i = 7 ∧ j = 3) ∨ (i = 8 ∧ j = 4) ∨ (i = 9 ∧ j = 6)) : RS (va_up σ i (fun _ => nI v)) (upN N j v) := by
  obtain ⟨h0, h1, h2, h3, h4, h5, h6, h7, h8, h9⟩ := h
  refine ⟨fun k hk => ?_, fun k hk => ?_, fun k hk => ?_, fun k hk => ?_, fun k hk => ?_, fun k hk => ?_, ?_, ?_, ?_, ?_⟩
  · rw [va_up_n (by omega), upN_n (by omega)]; exact h0 k hk
  · have := dm_lt hk
    rw [va_up_n (by omega), upN_n (by omega)]; exact h1 k hk
  · rw [va_up_n (by omega), upN_n (by omega)]; exact h2 k hk
  · have := wm_lt hk
    rw [va_up_n (by omega), upN_n (by omega)]; exact h3 k hk
  · have := wm_lt hk
    rw [va_up_n (by omega), upN_n (by omega)]; exact h4 k hk
  · rw [va_up_n (by omega), upN_n (by omega)]; exact h5 k hk
  · rcases hij with ⟨rfl, rfl⟩ | ⟨rfl, rfl⟩ | ⟨rfl, rfl⟩ | ⟨rfl, rfl⟩ <;> first | (rw [va_up_s, upN_s]) | (rw [va_up_n (by omega), upN_n (by omega)]; assumption)
  · rcases hij with ⟨rfl, rfl⟩ | ⟨rfl, rfl⟩ | ⟨rfl, rfl⟩ | ⟨rfl, rfl⟩ <;> first | (rw [va_up_s, upN_s]) | (rw [va_up_n (by omega), upN_n (by omega)]; assumption)
  · rcases hij with ⟨rfl, rfl⟩ | ⟨rfl, rfl⟩ | ⟨rfl, rfl⟩ | ⟨rfl, rfl⟩ <;> first | (rw [va_up_s, upN_s]) | (rw [va_up_n (by omega), upN_n (by omega)]; assumption)
  · rcases hij with ⟨rfl, rfl⟩ | ⟨rfl, rfl⟩ | ⟨rfl, rfl⟩ | ⟨rfl, rfl⟩ <;> first | (rw [va_up_s, upN_s]) | (rw [va_up_n (by omega), upN_n (by omega)]; assumption)
/-- a number that only the model holds (all strokes) -/
theorem RS.of5 {σ : Nat → Nat → Int32} {N : Nat → Nat} (h : RS σ N) (v : Nat) : RS σ (upN N 5 v) := by
  obtain ⟨h0, h1, h2, h3, h4, h5, h6, h7, h8, h9⟩ := h
  refine ⟨fun k hk => ?_, fun k hk => ?_, fun k hk => ?_, fun k hk => ?_, fun k hk => ?_, fun k hk => ?_, ?_, ?_, ?_, ?_⟩
  · rw [upN_n (by omega)]; exact h0 k hk
  · have := dm_lt hk
    rw [upN_n (by omega)]; exact h1 k hk
  · rw [upN_n (by omega)]; exact h2 k hk
  · have := wm_lt hk
    rw [upN_n (by omega)]; exact h3 k hk
  · have := wm_lt hk
    rw [upN_n (by omega)]; exact h4 k hk
  · rw [upN_n (by omega)]; exact h5 k hk
  · rw [upN_n (by omega)]; exact h6
  · rw [upN_n (by omega)]; exact h7
  · rw [upN_n (by omega)]; exact h8
  · rw [upN_n (by omega)]; exact h9
theorem RS.of54 {σ : Nat → Nat → Int32} {N : Nat → Nat} (h : RS σ N) {P : Nat} (hP : P < 6) (v : Nat) : RS σ (upN N (54 + 8 * P) v) := by
  obtain ⟨h0, h1, h2, h3, h4, h5, h6, h7, h8, h9⟩ := h
  refine ⟨fun k hk => ?_, fun k hk => ?_, fun k hk => ?_, fun k hk => ?_, fun k hk => ?_, fun k hk => ?_, ?_, ?_, ?_, ?_⟩
  · rw [upN_n (by omega)]; exact h0 k hk
  · have := dm_lt hk
    rw [upN_n (by omega)]; exact h1 k hk
  · rw [upN_n (by omega)]; exact h2 k hk
  · rw [upN_n (by unfold wm; omega)]; exact h3 k hk
  · rw [upN_n (by unfold wm; omega)]; exact h4 k hk
  · rw [upN_n (by omega)]; exact h5 k hk
  · rw [upN_n (by omega)]; exact h6
  · rw [upN_n (by omega)]; exact h7
  · rw [upN_n (by omega)]; exact h8
  · rw [upN_n (by omega)]; exact h9
theorem RS.of0 {σ : Nat → Nat → Int32} {N : Nat → Nat} (h : RS σ N) {i : Nat} (hi : i < 2) (v : Nat) : RS (va_up σ 0 (upd (σ 0) i (nI v))) (upN N i v) := by
  obtain ⟨h0, h1, h2, h3, h4, h5, h6, h7, h8, h9⟩ := h
  refine ⟨fun k hk => ?_, fun k hk => ?_, fun k hk => ?_, fun k hk => ?_, fun k hk => ?_, fun k hk => ?_, ?_, ?_, ?_, ?_⟩
  · rw [va_up_s]
    by_cases e : k = i
    · rw [e, pk_us, upN_s]
    · rw [pk_un e, upN_n e]; exact h0 k hk
  · have := dm_lt hk
    rw [va_up_n (by omega), upN_n (by omega)]; exact h1 k hk
  · rw [va_up_n (by omega), upN_n (by omega)]; exact h2 k hk
  · have := wm_lt hk
    rw [va_up_n (by omega), upN_n (by omega)]; exact h3 k hk
  · have := wm_lt hk
    rw [va_up_n (by omega), upN_n (by omega)]; exact h4 k hk
  · rw [va_up_n (by omega), upN_n (by omega)]; exact h5 k hk
  · rw [va_up_n (by omega), upN_n (by omega)]; exact h6
  · rw [va_up_n (by omega), upN_n (by omega)]; exact h7
  · rw [va_up_n (by omega), upN_n (by omega)]; exact h8
  · rw [va_up_n (by omega), upN_n (by omega)]; exact h9
theorem RS.of2 {σ : Nat → Nat → Int32} {N : Nat → Nat} (h : RS σ N) {i : Nat} (hi : i < 8) (v : Nat) : RS (va_up σ 2 (upd (σ 2) i (nI v))) (upN N (11 + 5 * i) v) := by
  obtain ⟨h0, h1, h2, h3, h4, h5, h6, h7, h8, h9⟩ := h
  refine ⟨fun k hk => ?_, fun k hk => ?_, fun k hk => ?_, fun k hk => ?_, fun k hk => ?_, fun k hk => ?_, ?_, ?_, ?_, ?_⟩
  · rw [va_up_n (by omega), upN_n (by omega)]; exact h0 k hk
  · rw [va_up_n (by omega), upN_n (by unfold dm; split <;> omega)]; exact h1 k hk
  · rw [va_up_s]
    by_cases e : k = i
    · rw [e, pk_us, upN_s]
    · rw [pk_un e, upN_n (by omega)]; exact h2 k hk
  · have := wm_lt hk
    rw [va_up_n (by omega), upN_n (by omega)]; exact h3 k hk
  · have := wm_lt hk
    rw [va_up_n (by omega), upN_n (by omega)]; exact h4 k hk
  · rw [va_up_n (by omega), upN_n (by omega)]; exact h5 k hk
  · rw [va_up_n (by omega), upN_n (by omega)]; exact h6
  · rw [va_up_n (by omega), upN_n (by omega)]; exact h7
  · rw [va_up_n (by omega), upN_n (by omega)]; exact h8
  · rw [va_up_n (by omega), upN_n (by omega)]; exact h9
theorem RS.of3 {σ : Nat → Nat → Int32} {N : Nat → Nat} (h : RS σ N) {i : Nat} (hi : i < 18) (v : Nat) : RS (va_up σ 3 (upd (σ 3) i (nI v))) (upN N (wm i) v) := by
  obtain ⟨h0, h1, h2, h3, h4, h5, h6, h7, h8, h9⟩ := h
  have hw := wm_lt hi
  refine ⟨fun k hk => ?_, fun k hk => ?_, fun k hk => ?_, fun k hk => ?_, fun k hk => ?_, fun k hk => ?_, ?_, ?_, ?_, ?_⟩
  · rw [va_up_n (by omega), upN_n (by omega)]; exact h0 k hk
  · have := dm_lt hk
    rw [va_up_n (by omega), upN_n (by omega)]; exact h1 k hk
  · rw [va_up_n (by omega), upN_n (by omega)]; exact h2 k hk
  · rw [va_up_s]
    by_cases e : k = i
    · rw [e, pk_us, upN_s]
    · rw [pk_un e, upN_n (by unfold wm; omega)]; exact h3 k hk
  · rw [va_up_n (by omega), upN_n (by unfold wm; omega)]; exact h4 k hk
  · rw [va_up_n (by omega), upN_n (by unfold wm; omega)]; exact h5 k hk
  · rw [va_up_n (by omega), upN_n (by omega)]; exact h6
  · rw [va_up_n (by omega), upN_n (by omega)]; exact h7
  · rw [va_up_n (by omega), upN_n (by omega)]; exact h8
  · rw [va_up_n (by omega), upN_n (by omega)]; exact h9
theorem RS.of4 {σ : Nat → Nat → Int32} {N : Nat → Nat} (h : RS σ N) {i : Nat} (hi : i < 18) (v : Nat) : RS (va_up σ 4 (upd (σ 4) i (nI v))) (upN N (wm i + 4) v) := by
  obtain ⟨h0, h1, h2, h3, h4, h5, h6, h7, h8, h9⟩ := h
  have hw := wm_lt hi
  refine ⟨fun k hk => ?_, fun k hk => ?_, fun k hk => ?_, fun k hk => ?_, fun k hk => ?_, fun k hk => ?_, ?_, ?_, ?_, ?_⟩
  · rw [va_up_n (by omega), upN_n (by omega)]; exact h0 k hk
  · have := dm_lt hk
    rw [va_up_n (by omega), upN_n (by omega)]; exact h1 k hk
  · rw [va_up_n (by omega), upN_n (by omega)]; exact h2 k hk
  · rw [va_up_n (by omega), upN_n (by unfold wm; omega)]; exact h3 k hk
  · rw [va_up_s]
    by_cases e : k = i
    · rw [e, pk_us, upN_s]
    · rw [pk_un e, upN_n (by unfold wm; omega)]; exact h4 k hk
  · rw [va_up_n (by omega), upN_n (by unfold wm; omega)]; exact h5 k hk
  · rw [va_up_n (by omega), upN_n (by omega)]; exact h6
  · rw [va_up_n (by omega), upN_n (by omega)]; exact h7
  · rw [va_up_n (by omega), upN_n (by omega)]; exact h8
  · rw [va_up_n (by omega), upN_n (by omega)]; exact h9
theorem RS.ofS {σ : Nat → Nat → Int32} {N : Nat → Nat} (h : RS σ N) {i : Nat} (hi : i < 6) (v : Nat) : RS (va_up σ 5 (upd (σ 5) i (nI v))) (upN N (58 + 8 * i) v) := by
  obtain ⟨h0, h1, h2, h3, h4, h5, h6, h7, h8, h9⟩ := h
  refine ⟨fun k hk => ?_, fun k hk => ?_, fun k hk => ?_, fun k hk => ?_, fun k hk => ?_, fun k hk => ?_, ?_, ?_, ?_, ?_⟩
  · rw [va_up_n (by omega), upN_n (by omega)]; exact h0 k hk
  · have := dm_lt hk
    rw [va_up_n (by omega), upN_n (by omega)]; exact h1 k hk
  · rw [va_up_n (by omega), upN_n (by omega)]; exact h2 k hk
  · rw [va_up_n (by omega), upN_n (by unfold wm; omega)]; exact h3 k hk
  · rw [va_up_n (by omega), upN_n (by unfold wm; omega)]; exact h4 k hk
  · rw [va_up_s]
    by_cases e : k = i
    · rw [e, pk_us, upN_s]
    · rw [pk_un e, upN_n (by omega)]; exact h5 k hk
  · rw [va_up_n (by omega), upN_n (by omega)]; exact h6
  · rw [va_up_n (by omega), upN_n (by omega)]; exact h7
  · rw [va_up_n (by omega), upN_n (by omega)]; exact h8
  · rw [va_up_n (by omega), upN_n (by omega)]; exact h9
-- pure: filling, thinning, pouring, dipping: both sides alike
theorem wi8 (x : Int32) : s_X4_isWithin x 8 = s_X5_in x 0 7 := within_in x (n := 7) (by omega)
theorem wi4 (x : Int32) : s_X4_isWithin x 4 = s_X5_in x 0 3 := within_in x (n := 3) (by omega)
theorem wi6 (x : Int32) : s_X4_isWithin x 6 = s_X5_in x 0 5 := within_in x (n := 5) (by omega)
theorem wi2 (x : Int32) : s_X4_isWithin x 2 = s_X5_in x 0 1 := within_in x (n := 1) (by omega)
theorem bt_l (x lo hi : Int32) : s_X4_isBetween x lo hi = s_X5_in x lo hi := rfl
theorem one_ne : ¬ (1 : Int32) = 0 := by decide
theorem sm4_up {N : Nat → Nat} {q k z : Nat} (hk : k < 4) : sm4 (upN N (q + k) (N (q + k) + z)) q = sm4 N q + z := by
  unfold sm4 upN
  rcases (show k = 0 ∨ k = 1 ∨ k = 2 ∨ k = 3 by omega) with rfl | rfl | rfl | rfl <;> simp <;> omega
theorem sm4_off {N : Nat → Nat} {q j v : Nat} (hj : j < q ∨ q + 4 ≤ j) : sm4 (upN N j v) q = sm4 N q := by
  unfold sm4
  rw [upN_n (by omega), upN_n (by omega), upN_n (by omega), upN_n (by omega)]
theorem Inv.ofD {N N' : Nat → Nat} {c : Nat} (I : Inv N c) (hN : ∀ j, (j < 2 ∨ 51 ≤ j ∨ j = 5) → N' j = N j) (hp : ∀ p, p < 8 → sm4 N' (7 + 5 * p) ≤ 81) (hb : sm4 N' 47 ≤ 9) : Inv N' c := by
  obtain ⟨i0, i1, -, -, i4, i5⟩ := I
  refine ⟨by rw [hN 0 (by omega)]; exact i0, by rw [hN 1 (by omega)]; exact i1, hp, hb, fun p h => ?_, ?_⟩
  · rw [hN _ (by omega), hN _ (by omega), hN _ (by omega), hN _ (by omega), hN _ (by omega), hN _ (by omega), hN _ (by omega), hN _ (by omega)]
    exact i4 p h
  · unfold sm6 at i5 ⊢
    rw [hN _ (by omega), hN _ (by omega), hN _ (by omega), hN _ (by omega), hN _ (by omega), hN _ (by omega), hN _ (by omega)]
    exact i5
-- pure: from paint to paint
theorem RS.ofX {σ σ' : Nat → Nat → Int32} {N : Nat → Nat} (h : RS σ N) (hs : ∀ j, j < 10 → σ' j = σ j) : RS σ' N := by
  obtain ⟨h0, h1, h2, h3, h4, h5, h6, h7, h8, h9⟩ := h
  refine ⟨by rw [hs 0 (by omega)]; exact h0, by rw [hs 1 (by omega)]; exact h1, by rw [hs 2 (by omega)]; exact h2, by rw [hs 3 (by omega)]; exact h3, by rw [hs 4 (by omega)]; exact h4, by rw [hs 5 (by omega)]; exact h5, by rw [hs 6 (by omega)]; exact h6, by rw [hs 7 (by omega)]; exact h7, by rw [hs 8 (by omega)]; exact h8, by rw [hs 9 (by omega)]; exact h9⟩
def ptN (N : Nat → Nat) (q : Nat) (y : Nat → Nat) (i : Nat) : Nat → Nat := fun j => if q ≤ j ∧ j < q + i then N j + y (j - q) else N j
theorem ptN_0 (N : Nat → Nat) (q : Nat) (y : Nat → Nat) : ptN N q y 0 = N := by
  funext j
  unfold ptN
  rw [if_neg (by omega)]
theorem ptN_s (N : Nat → Nat) (q : Nat) (y : Nat → Nat) (i : Nat) : upN (ptN N q y i) (q + i) (N (q + i) + y i) = ptN N q y (i + 1) := by
  funext j
  unfold upN ptN
  by_cases e : j = q + i
  · subst e
    rw [if_pos rfl, if_pos (by omega), show q + i - q = i by omega]
  · rw [if_neg e]
    by_cases h : q ≤ j ∧ j < q + i
    · rw [if_pos h, if_pos (by omega)]
    · rw [if_neg h, if_neg (by omega)]
theorem ptN_at (N : Nat → Nat) (q : Nat) (y : Nat → Nat) (i : Nat) : ptN N q y i (q + i) = N (q + i) := by
  unfold ptN
  rw [if_neg (by omega)]
theorem tkN_off {N : Nat → Nat} {q : Nat} {y : Nat → Nat} {i j : Nat} (h : j < q ∨ q + i ≤ j) : tkN N q y i j = N j := by
  unfold tkN
  rw [if_neg (by omega)]
theorem ptN_off {N : Nat → Nat} {q : Nat} {y : Nat → Nat} {i j : Nat} (h : j < q ∨ q + i ≤ j) : ptN N q y i j = N j := by
  unfold ptN
  rw [if_neg (by omega)]
theorem sm4_tk {N : Nat → Nat} {q : Nat} {y : Nat → Nat} (h : ∀ k, k < 4 → y k ≤ N (q + k)) : sm4 (tkN N q y 4) q = sm4 N q - s4 y := by
  have h0 := h 0 (by omega)
  have h1 := h 1 (by omega)
  have h2 := h 2 (by omega)
  have h3 := h 3 (by omega)
  unfold sm4 tkN s4
  rw [if_pos (by omega), if_pos (by omega), if_pos (by omega), if_pos (by omega)]
  rw [show q - q = 0 by omega, show q + 1 - q = 1 by omega, show q + 2 - q = 2 by omega, show q + 3 - q = 3 by omega]
  rw [Nat.add_zero] at h0
  omega
theorem sm4_pt {N : Nat → Nat} {q : Nat} {y : Nat → Nat} : sm4 (ptN N q y 4) q = sm4 N q + s4 y := by
  unfold sm4 ptN s4
  rw [if_pos (by omega), if_pos (by omega), if_pos (by omega), if_pos (by omega)]
  rw [show q - q = 0 by omega, show q + 1 - q = 1 by omega, show q + 2 - q = 2 by omega, show q + 3 - q = 3 by omega]
  omega
theorem sm4_eq {N N' : Nat → Nat} {q : Nat} (h : ∀ k, k < 4 → N' (q + k) = N (q + k)) : sm4 N' q = sm4 N q := by
  have h0 := h 0 (by omega)
  have h1 := h 1 (by omega)
  have h2 := h 2 (by omega)
  have h3 := h 3 (by omega)
  rw [Nat.add_zero] at h0
  unfold sm4
  rw [h0, h1, h2, h3]
theorem cPut_s {r : (Nat → Int32) × (Nat → Int32) × (Nat → Int32)} {d : Nat → Int32} {N y : Nat → Nat} {p i fu : Nat} {kc : (Nat → Int32) → Option (Int32 × (Nat → Int32) × (Nat → Int32) × (Nat → Int32))} (hp : p < 9) (hi : i < 4) (ht : r.2.1 i = nI (y i)) (hd : RD d (ptN N (qp p) y i)) : ∃ d', RD d' (ptN N (qp p) y (i + 1)) ∧ s_X2_move_L1 r (nI p) kc (fu + 1) (nI i, d) = s_X2_move_L1 r (nI p) kc fu (nI (i + 1), d') := by
  have e0 : nI p * 4 = nI (4 * p) := (pk_mul p 4).trans (by rw [Nat.mul_comm])
  have h1 := hd.up (k := 4 * p + i) (by omega) (N (qp p + i) + y i)
  rw [dm_q hp hi, ptN_s] at h1
  refine ⟨_, h1, ?_⟩
  show s_X2_move_B1 r (nI p) kc (s_X2_move_L1 r (nI p) kc fu) (nI i) d = _
  unfold s_X2_move_B1
  rw [if_neg (show ¬ (4 : Int32) ≤ nI i from nI_ge (a := i) (b := 4) (by omega) (by omega)), e0, nI_add, cl_e (at_n hi (by omega)), cl_e (add_n (by omega) (by omega)), nm_e', nI_1, ht, hd _ (by omega), dm_q hp hi, ptN_at, nI_add]
theorem qp_apart {p t : Nat} (hp : p < 9) (ht : t < 9) (h : p ≠ t) : qp p + 4 ≤ qp t ∨ qp t + 4 ≤ qp p := by
  unfold qp
  split <;> split <;> omega
theorem qp_lt (p : Nat) : qp p + 3 < 51 := by
  unfold qp
  split <;> omega
-- pure: down the sink
def zrN (N : Nat → Nat) (q i : Nat) : Nat → Nat := fun j => if q ≤ j ∧ j < q + i then 0 else N j
theorem zrN_0 (N : Nat → Nat) (q : Nat) : zrN N q 0 = N := by
  funext j
  unfold zrN
  rw [if_neg (by omega)]
theorem zrN_s (N : Nat → Nat) (q i : Nat) : upN (zrN N q i) (q + i) 0 = zrN N q (i + 1) := by
  funext j
  unfold upN zrN
  by_cases e : j = q + i
  · subst e
    rw [if_pos rfl, if_pos (by omega)]
  · rw [if_neg e]
    by_cases h : q ≤ j ∧ j < q + i
    · rw [if_pos h, if_pos (by omega)]
    · rw [if_neg h, if_neg (by omega)]
theorem zrN_off {N : Nat → Nat} {q i j : Nat} (h : j < q ∨ q + i ≤ j) : zrN N q i j = N j := by
  unfold zrN
  rw [if_neg (by omega)]
theorem sm4_zr {N : Nat → Nat} {q : Nat} : sm4 (zrN N q 4) q = 0 := by
  unfold sm4 zrN
  rw [if_pos (by omega), if_pos (by omega), if_pos (by omega), if_pos (by omega)]
theorem cZr_s {d : Nat → Int32} {N : Nat → Nat} {p i fu : Nat} {kc : (Nat → Int32) → Option (Int32 × Int32 × (Nat → Int32))} (hp : p < 9) (hi : i < 4) (hd : RD d (zrN N (qp p) i)) : ∃ d', RD d' (zrN N (qp p) (i + 1)) ∧ s_X2_sink_L1 (nI p) kc (fu + 1) (nI i, d) = s_X2_sink_L1 (nI p) kc fu (nI (i + 1), d') := by
  have e0 : nI p * 4 = nI (4 * p) := (pk_mul p 4).trans (by rw [Nat.mul_comm])
  have h1 := hd.up (k := 4 * p + i) (by omega) 0
  rw [dm_q hp hi, zrN_s] at h1
  refine ⟨_, h1, ?_⟩
  show s_X2_sink_B1 (nI p) kc (s_X2_sink_L1 (nI p) kc fu) (nI i) d = _
  unfold s_X2_sink_B1
  rw [if_neg (show ¬ (4 : Int32) ≤ nI i from nI_ge (a := i) (b := 4) (by omega) (by omega)), e0, nI_add, cl_e (write_n (by omega) (by omega)), nm_e', nI_1]
  rfl
def skN (N : Nat → Nat) (p : Nat) : Nat → Nat := upN (zrN N (qp p) 4) 4 (N 4 + sm4 N (qp p))
theorem qp_ge (p : Nat) : 7 ≤ qp p := by
  unfold qp
  split <;> omega
theorem cPn_s {d g : Nat → Int32} {N : Nat → Nat} {P i fu : Nat} {kc : (Nat → Int32) → Option (Int32 × Int32 × (Nat → Int32) × (Nat → Int32) × (Nat → Int32) × (Nat → Int32) × (Nat → Int32))} (hd : RD d N) (hP : P < 6) (hi : i < 3) (h0 : 0 < sm4 N 47) (hb : sm4 N 47 ≤ 81) : s_X2_paintPanel_L1 d (nI P) kc (fu + 1) (nI i, g) = s_X2_paintPanel_L1 d (nI P) kc fu (nI (i + 1), upd g (3 * P + i) (nI (stg N 47 i))) := by
  have e0 : nI P * 3 = nI (3 * P) := (pk_mul P 3).trans (by rw [Nat.mul_comm])
  have hs : s_X2_strength d 8 (nI i) = some (nI (stg N 47 i)) := cStr hd (p := 8) (by omega) (by omega) h0 hb
  show s_X2_paintPanel_B1 d (nI P) kc (s_X2_paintPanel_L1 d (nI P) kc fu) (nI i) g = _
  unfold s_X2_paintPanel_B1
  rw [if_neg (show ¬ (3 : Int32) ≤ nI i from nI_ge (a := i) (b := 3) (by omega) (by omega)), cl_e hs, e0, nI_add, cl_e (write_n (by omega) (by omega)), nm_e', nI_1]
