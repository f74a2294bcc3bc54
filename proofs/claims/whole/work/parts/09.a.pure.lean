-- pure: numbers, reads and writes of rows
theorem q_lit (n : Nat) : (OfNat.ofNat n : Int32) = nI n := rfl
theorem ld_n {β : Type} {n a : Nat} {f : Nat → Int32} {k : Int32 → Option β} (h : a < n) (hn : n < 2 ^ 31) : ld n f (nI a) k = k (f a) := by
  unfold ld
  rw [nI_clamp (by omega), if_neg (fun q => q.elim (nI_pos (by omega)) (by omega))]
theorem sto_n {β : Type} {n a : Nat} {f : Nat → Int32} {x : Int32} {k : (Nat → Int32) → Option β} (h : a < n) (hn : n < 2 ^ 31) : sto n f (nI a) x k = k (upd f a x) := by
  unfold sto
  rw [nI_clamp (by omega), if_neg (fun q => q.elim (nI_pos (by omega)) (by omega))]
theorem ldq_n {β : Type} {n a : Nat} {f : Nat → Option Nat} {k : Option Nat → Option β} (h : a < n) (hn : n < 2 ^ 31) : ldq n f (nI a) k = k (f a) := by
  unfold ldq
  rw [nI_clamp (by omega), if_neg (fun q => q.elim (nI_pos (by omega)) (by omega))]
theorem nm_e' {α β : Type} {x : α} {k : α → Option β} : nm x k = k x := rfl
theorem cl_s {α β : Type} {x : α} {k : α → Option β} : cl (some x) k = k x := rfl
theorem cl_e {α β : Type} {o : Option α} {x : α} {k : α → Option β} (h : o = some x) : cl o k = k x := by rw [h]; rfl
theorem dv_n {β : Type} {x y : Int32} {k : Int32 → Option β} (h : ¬ y = 0) : dv x y k = k (x / y) := if_neg h
theorem rmd_n {β : Type} {x y : Int32} {k : Int32 → Option β} (h : ¬ y = 0) : rmd x y k = k (x - x / y * y) := if_neg h
theorem at_n {n a : Nat} {f : Nat → Int32} (h : a < n) (hn : n < 2 ^ 31) : s_X4_at n f (nI a) = some (f a) := by
  unfold s_X4_at
  rw [if_neg (nI_pos (by omega)), if_pos (show nI a < Int32.ofNat n from nI_lt h hn), ld_n h hn]
theorem write_n {n a : Nat} {f : Nat → Int32} {v : Int32} (h : a < n) (hn : n < 2 ^ 31) : s_X4_write n f (nI a) v = some (upd f a v) := by
  unfold s_X4_write
  rw [if_neg (nI_pos (by omega)), if_neg (show ¬ Int32.ofNat n ≤ nI a from nI_ge h hn), sto_n h hn]
theorem add_n {n a : Nat} {f : Nat → Int32} {v : Int32} (h : a < n) (hn : n < 2 ^ 31) : s_X4_add n f (nI a) v = some (upd f a (f a + v)) := by
  unfold s_X4_add
  rw [cl_e (at_n h hn), cl_e (write_n h hn)]
theorem within_lt {x m : Int32} (h : x < 0) : s_X4_isWithin x m = some 0 := if_pos h
theorem within_ge {x m : Int32} (h : m ≤ x) : s_X4_isWithin x m = some 0 := by
  unfold s_X4_isWithin
  by_cases h0 : x < 0
  · rw [if_pos h0]
  · rw [if_neg h0, if_pos h]
theorem within_n {a n : Nat} (h : a < n) (hn : n < 2 ^ 31) : s_X4_isWithin (nI a) (nI n) = some 1 := by
  unfold s_X4_isWithin
  rw [if_neg (nI_pos (by omega)), if_neg (nI_ge h hn)]
theorem in_lt {x lo hi : Int32} (h : x < lo) : s_X5_in x lo hi = some 0 := by
  unfold s_X5_in
  have : ¬ lo ≤ x := fun q => by
    have := Int32.lt_of_lt_of_le h q
    exact absurd this (Int32.lt_irrefl)
  simp [this]
theorem in_gt {x lo hi : Int32} (h : hi < x) : s_X5_in x lo hi = some 0 := by
  unfold s_X5_in
  have : ¬ x ≤ hi := fun q => absurd (Int32.lt_of_lt_of_le h q) (Int32.lt_irrefl)
  simp [this]
theorem bt_in (x lo hi : Int32) : s_X4_isBetween x lo hi = s_X5_in x lo hi := rfl
theorem in_cases (x lo hi : Int32) : (s_X5_in x lo hi = some 0 ∧ (x < lo ∨ hi < x)) ∨ (s_X5_in x lo hi = some 1 ∧ ¬ x < lo ∧ ¬ hi < x) := by
  unfold s_X5_in
  by_cases h1 : x < lo
  · rw [if_pos h1]; exact Or.inl ⟨rfl, Or.inl h1⟩
  · rw [if_neg h1]
    by_cases h2 : hi < x
    · rw [if_pos h2]; exact Or.inl ⟨rfl, Or.inr h2⟩
    · rw [if_neg h2]; exact Or.inr ⟨rfl, h1, h2⟩
theorem rng_n {x : Int32} {a b : Nat} (hb : b < 2 ^ 31) (hab : a ≤ b) (h1 : ¬ x < nI a) (h2 : ¬ nI b < x) : ∃ j, a ≤ j ∧ j ≤ b ∧ x = nI j := by
  have h0 : ¬ x < 0 := fun q => h1 (Int32.lt_of_lt_of_le q (by rw [← nI_0]; exact nI_le (Nat.zero_le a) (by omega)))
  obtain ⟨j, hj, rfl⟩ := nI_of h0
  refine ⟨j, ?_, ?_, rfl⟩
  · rcases Nat.lt_or_ge j a with q | q
    · exact absurd (nI_lt q (by omega)) h1
    · exact q
  · rcases Nat.lt_or_ge b j with q | q
    · exact absurd (nI_lt q (by omega)) h2
    · exact q
theorem within_in (x : Int32) {n : Nat} (hn : n + 1 < 2 ^ 31) : s_X4_isWithin x (nI (n + 1)) = s_X5_in x (nI 0) (nI n) := by
  rcases pk_ix x (n := n + 1) hn with h | h | ⟨j, hj, rfl⟩
  · rw [within_lt h, in_lt (by rw [nI_0]; exact h)]
  · rw [within_ge h, in_gt (Int32.lt_of_lt_of_le (nI_lt (Nat.lt_succ_self n) hn) h)]
  · rw [within_n hj hn]
    rcases in_cases (nI j) (nI 0) (nI n) with ⟨-, h⟩ | ⟨h, -⟩
    · rcases h with h | h
      · exact absurd h (nI_nlt (Nat.zero_le j) (by omega))
      · exact absurd h (nI_nlt (by omega) (by omega))
    · rw [h]
-- pure: the state as numbers; both sides' rows hold it
def dm (k : Nat) : Nat := if k < 32 then 7 + 5 * (k / 4) + k % 4 else 15 + k
def wm (k : Nat) : Nat := 51 + 8 * (k / 3) + k % 3
def qp (p : Nat) : Nat := if p < 8 then 7 + 5 * p else 47
theorem dm_q {p k : Nat} (hp : p < 9) (hk : k < 4) : dm (4 * p + k) = qp p + k := by
  unfold dm qp
  split <;> split <;> omega
theorem dm_lt {k : Nat} (hk : k < 36) : dm k < 51 ∧ 7 ≤ dm k := by
  unfold dm
  split <;> omega
theorem wm_q {p k : Nat} (hk : k < 3) : wm (3 * p + k) = 51 + 8 * p + k := by
  unfold wm
  omega
theorem wm_lt {k : Nat} (hk : k < 18) : wm k < 94 ∧ 51 ≤ wm k := by
  unfold wm
  omega
def RM (s : Nat → Int32) (N : Nat → Nat) : Prop := ∀ k, k < 99 → s k = nI (N k)
def RD (d : Nat → Int32) (N : Nat → Nat) : Prop := ∀ k, k < 36 → d k = nI (N (dm k))
def RS (σ : Nat → Nat → Int32) (N : Nat → Nat) : Prop := (∀ k, k < 2 → σ 0 k = nI (N k)) ∧ RD (σ 1) N ∧ (∀ k, k < 8 → σ 2 k = nI (N (11 + 5 * k))) ∧ (∀ k, k < 18 → σ 3 k = nI (N (wm k))) ∧ (∀ k, k < 18 → σ 4 k = nI (N (wm k + 4))) ∧ (∀ k, k < 6 → σ 5 k = nI (N (58 + 8 * k))) ∧ σ 6 0 = nI (N 2) ∧ σ 7 0 = nI (N 3) ∧ σ 8 0 = nI (N 4) ∧ σ 9 0 = nI (N 6)
def sm4 (N : Nat → Nat) (q : Nat) : Nat := N q + N (q + 1) + N (q + 2) + N (q + 3)
def sm6 (N : Nat → Nat) (q : Nat) : Nat := N q + N (q + 8) + N (q + 16) + N (q + 24) + N (q + 32) + N (q + 40)
def Inv (N : Nat → Nat) (c : Nat) : Prop := (1 ≤ N 0 ∧ N 0 ≤ 9) ∧ N 1 ≤ 60 ∧ (∀ p, p < 8 → sm4 N (7 + 5 * p) ≤ 81) ∧ sm4 N 47 ≤ 9 ∧ (∀ p, p < 6 → N (51 + 8 * p) ≤ 100 ∧ N (52 + 8 * p) ≤ 100 ∧ N (53 + 8 * p) ≤ 100 ∧ N (54 + 8 * p) ≤ 1 ∧ N (55 + 8 * p) ≤ 100 ∧ N (56 + 8 * p) ≤ 100 ∧ N (57 + 8 * p) ≤ 100 ∧ N (58 + 8 * p) ≤ c ∧ (N (54 + 8 * p) = 0 ↔ N (58 + 8 * p) = 0)) ∧ N 5 = sm6 N 58
theorem Inv.q {N : Nat → Nat} {c p : Nat} (h : Inv N c) (hp : p < 9) : sm4 N (qp p) ≤ 81 := by
  unfold qp
  split
  · exact h.2.2.1 p (by omega)
  · have := h.2.2.2.1
    omega
def upN (N : Nat → Nat) (j v : Nat) : Nat → Nat := fun k => if k = j then v else N k
theorem upN_s {N : Nat → Nat} {j v : Nat} : upN N j v j = v := if_pos rfl
theorem upN_n {N : Nat → Nat} {j v k : Nat} (h : k ≠ j) : upN N j v k = N k := if_neg h
theorem RM.up {s : Nat → Int32} {N : Nat → Nat} (h : RM s N) (j v : Nat) : RM (upd s j (nI v)) (upN N j v) := by
  intro k hk
  unfold upN
  by_cases e : k = j
  · subst e; rw [pk_us, if_pos rfl]
  · rw [pk_un e, if_neg e]; exact h k hk
theorem dm_inj {a b : Nat} (ha : a < 36) (hb : b < 36) (h : dm a = dm b) : a = b := by
  unfold dm at h
  split at h <;> split at h <;> omega
theorem RD.up {d : Nat → Int32} {N : Nat → Nat} (h : RD d N) {k : Nat} (hk : k < 36) (v : Nat) : RD (upd d k (nI v)) (upN N (dm k) v) := by
  intro j hj
  by_cases e : j = k
  · subst e; rw [pk_us, upN_s]
  · rw [pk_un e, upN_n (fun z => e (dm_inj hj hk z))]; exact h j hj
theorem RD.off {d : Nat → Int32} {N : Nat → Nat} (h : RD d N) {j : Nat} (v : Nat) (hj : ∀ k, k < 36 → dm k ≠ j) : RD d (upN N j v) := fun k hk => by
  rw [upN_n (hj k hk)]; exact h k hk
-- reads
theorem cAll {d : Nat → Int32} {N : Nat → Nat} (h : RD d N) {p : Nat} (hp : p < 9) : s_X2_allDrops d (nI p) = some (nI (sm4 N (qp p))) := by
  have e0 : nI p * 4 = nI (4 * p) := (pk_mul p 4).trans (by rw [Nat.mul_comm])
  unfold s_X2_allDrops
  rw [nm_e', e0]
  try dsimp only
  rw [if_neg (nI_pos (by omega)), if_pos (show nI (4 * p) ≤ (32 : Int32) from nI_le (a := 4 * p) (b := 32) (by omega) (by omega))]
  rw [show nI (4 * p) + 1 = nI (4 * p + 1) from nI_add _ 1, show nI (4 * p) + 2 = nI (4 * p + 2) from nI_add _ 2, show nI (4 * p) + 3 = nI (4 * p + 3) from nI_add _ 3]
  rw [ld_n (by omega) (by omega), ld_n (by omega) (by omega), ld_n (by omega) (by omega), ld_n (by omega) (by omega)]
  rw [h _ (by omega), h _ (by omega), h _ (by omega), h _ (by omega), dm_q hp (by omega), dm_q hp (by omega), dm_q hp (by omega)]
  rw [show dm (4 * p) = qp p from dm_q (k := 0) hp (by omega), nI_add, nI_add, nI_add]
  rfl
theorem mAll {s : Nat → Int32} {N : Nat → Nat} (h : RM s N) {q : Nat} (hq : q + 3 < 99) : s_X5_drops s (nI q) = some (nI (sm4 N q)) := by
  unfold s_X5_drops
  rw [show nI q + 1 = nI (q + 1) from nI_add _ 1, show nI q + 2 = nI (q + 2) from nI_add _ 2, show nI q + 3 = nI (q + 3) from nI_add _ 3]
  rw [ld_n (by omega) (by omega), ld_n (by omega) (by omega), ld_n (by omega) (by omega), ld_n (by omega) (by omega)]
  rw [h _ (by omega), h _ (by omega), h _ (by omega), h _ (by omega), nI_add, nI_add, nI_add]
  rfl
theorem mP (p : Nat) (hp : p < 8) : s_X5_p (nI p) = some (nI (qp p)) := by
  unfold s_X5_p qp
  rw [if_pos hp]
  exact congrArg some (by rw [show (5 : Int32) * nI p = nI (5 * p) from pk_mul 5 p]; exact nI_add 7 _)
theorem mN (p : Nat) : s_X5_n (nI p) = some (nI (51 + 8 * p)) := by
  unfold s_X5_n
  exact congrArg some (by rw [show (8 : Int32) * nI p = nI (8 * p) from pk_mul 8 p]; exact nI_add 51 _)
theorem isPot_e (x : Int32) : s_X5_isPot x = s_X5_in x (nI 0) (nI 7) := by
  unfold s_X5_isPot cl
  show (s_X5_in x 0 7).bind some = s_X5_in x 0 7
  cases s_X5_in x 0 7 <;> rfl
theorem isPanel_e (x : Int32) : s_X5_isPanel x = s_X5_in x (nI 0) (nI 5) := by
  unfold s_X5_isPanel cl
  show (s_X5_in x 0 5).bind some = s_X5_in x 0 5
  cases s_X5_in x 0 5 <;> rfl
