-- what stays true by each act
theorem su_eq {g g' : Nat → Nat} : ∀ n, (∀ q, q < n → g' q = g q) → su g' n = su g n
  | 0, _ => rfl
  | n + 1, h => by
    show su g' n + g' n = su g n + g n
    rw [su_eq n (fun q hq => h q (by omega)), h n (by omega)]
theorem su_ch {g g' : Nat → Nat} {p : Nat} : ∀ n, p < n → (∀ q, q < n → q ≠ p → g' q = g q) → su g' n + g p = su g n + g' p
  | 0, hp, _ => absurd hp (by omega)
  | n + 1, hp, h => by
    show su g' n + g' n + g p = su g n + g n + g' p
    by_cases e : p = n
    · subst e
      rw [su_eq p (fun q hq => h q (by omega) (by omega))]
      omega
    · have ih := su_ch n (by omega) (fun q hq hne => h q (by omega) hne)
      have := h n (by omega) (fun z => e z.symm)
      omega
theorem su_ge {g : Nat → Nat} {p : Nat} : ∀ n, p < n → g p ≤ su g n
  | 0, hp => absurd hp (by omega)
  | n + 1, hp => by
    show g p ≤ su g n + g n
    by_cases e : p = n
    · subst e; omega
    · have := su_ge (g := g) n (show p < n by omega)
      omega
theorem qp8 {p : Nat} (h : p < 8) : qp p = 7 + 5 * p := if_pos h
theorem po_same {N N' : Nat → Nat} {q : Nat} (hq : q < 8) (h : ∀ j, 7 ≤ j → j < 47 → (∃ k, k < 4 ∧ j = qp q + k) → N' j = N j) : po N' q = po N q := by
  have e := qp8 hq
  exact sm4_eq (fun k hk => h _ (by omega) (by omega) ⟨k, hk, rfl⟩)
theorem I_fill {N : Nat → Nat} {c p k m : Nat} (I : Inv N c) (hB : Bal N) (hp : p < 8) (hk : k < 4) (hle : sm4 N (qp p) + m ≤ 81) : Inv (upN (upN N (qp p + k) (N (qp p + k) + m)) 2 (N 2 + m)) c ∧ Bal (upN (upN N (qp p + k) (N (qp p + k) + m)) 2 (N 2 + m)) := by
  have eq := qp8 hp
  have ep : sm4 (upN (upN N (qp p + k) (N (qp p + k) + m)) 2 (N 2 + m)) (qp p) = sm4 N (qp p) + m := by rw [sm4_off (by omega), sm4_up hk]
  have eo : ∀ q, q < 8 → q ≠ p → sm4 (upN (upN N (qp p + k) (N (qp p + k) + m)) 2 (N 2 + m)) (qp q) = sm4 N (qp q) := fun q hq hne => by
    have e2 := qp8 hq
    rw [sm4_off (by omega), sm4_off (by omega)]
  have eb : sm4 (upN (upN N (qp p + k) (N (qp p + k) + m)) 2 (N 2 + m)) 47 = sm4 N 47 := by rw [sm4_off (by omega), sm4_off (by omega)]
  constructor
  · refine I.ofD (fun j hj => by rw [upN_n (by omega), upN_n (by omega)]) (fun a ha => ?_) ?_
    · rw [← qp8 ha]
      by_cases e : a = p
      · subst e
        rw [ep]; exact hle
      · rw [eo a ha e]; exact I.q (by omega)
    · rw [eb]; exact I.2.2.2.1
  · have h1 := su_ch (g := po N) (g' := po (upN (upN N (qp p + k) (N (qp p + k) + m)) 2 (N 2 + m))) (p := p) 8 hp eo
    have h2 : po (upN (upN N (qp p + k) (N (qp p + k) + m)) 2 (N 2 + m)) p = po N p + m := ep
    unfold Bal at hB ⊢
    rw [eb, upN_s, upN_n (show 3 ≠ 2 by omega), upN_n (show 3 ≠ qp p + k by omega), upN_n (show 4 ≠ 2 by omega), upN_n (show 4 ≠ qp p + k by omega)]
    omega
theorem I_thin {N : Nat → Nat} {c p : Nat} (I : Inv N c) (hB : Bal N) (hp : p < 8) (hle : 3 * sm4 N (qp p) ≤ 81) : Inv (upN (upN (upN N (qp p + 3) (N (qp p + 3) + 2 * sm4 N (qp p))) 2 (N 2 + 2 * sm4 N (qp p))) (11 + 5 * p) (N (11 + 5 * p) + 1)) c ∧ Bal (upN (upN (upN N (qp p + 3) (N (qp p + 3) + 2 * sm4 N (qp p))) 2 (N 2 + 2 * sm4 N (qp p))) (11 + 5 * p) (N (11 + 5 * p) + 1)) := by
  have eq := qp8 hp
  obtain ⟨i1, b1⟩ := I_fill (k := 3) (m := 2 * sm4 N (qp p)) I hB hp (by omega) (by omega)
  have so : ∀ q, q < 9 → sm4 (upN (upN (upN N (qp p + 3) (N (qp p + 3) + 2 * sm4 N (qp p))) 2 (N 2 + 2 * sm4 N (qp p))) (11 + 5 * p) (N (11 + 5 * p) + 1)) (qp q) = sm4 (upN (upN N (qp p + 3) (N (qp p + 3) + 2 * sm4 N (qp p))) 2 (N 2 + 2 * sm4 N (qp p))) (qp q) := fun q hq => by
    by_cases e : q = 8
    · subst e
      rw [show qp 8 = 47 from rfl]
      exact sm4_off (by omega)
    · have e2 := qp8 (p := q) (by omega)
      exact sm4_off (by omega)
  constructor
  · refine i1.ofD (fun j hj => upN_n (by omega)) (fun a ha => ?_) ?_
    · rw [← qp8 ha, so a (by omega)]; exact i1.q (by omega)
    · have := so 8 (by omega)
      rw [show qp 8 = 47 from rfl] at this
      rw [this]; exact i1.2.2.2.1
  · have h1 := su_eq (g := po (upN (upN N (qp p + 3) (N (qp p + 3) + 2 * sm4 N (qp p))) 2 (N 2 + 2 * sm4 N (qp p)))) (g' := po (upN (upN (upN N (qp p + 3) (N (qp p + 3) + 2 * sm4 N (qp p))) 2 (N 2 + 2 * sm4 N (qp p))) (11 + 5 * p) (N (11 + 5 * p) + 1))) 8 (fun q hq => so q (by omega))
    have h2 := so 8 (by omega)
    rw [show qp 8 = 47 from rfl] at h2
    unfold Bal at b1 ⊢
    rw [h1, h2, upN_n (show 2 ≠ 11 + 5 * p by omega), upN_n (show 3 ≠ 11 + 5 * p by omega), upN_n (show 4 ≠ 11 + 5 * p by omega)]
    exact b1
theorem mv_p {N : Nat → Nat} {p t m : Nat} (hp : p < 9) (ht : t < 9) (hpt : p ≠ t) (hm0 : 0 < m) (hm : m ≤ sm4 N (qp p)) : sm4 (moveN N p t m) (qp p) = sm4 N (qp p) - m ∧ sm4 (moveN N p t m) (qp t) = sm4 N (qp t) + m ∧ ∀ q, q < 9 → q ≠ p → q ≠ t → sm4 (moveN N p t m) (qp q) = sm4 N (qp q) := by
  have hap := qp_apart hp ht hpt
  obtain ⟨y1, y2⟩ := yv_ok hm (by omega)
  refine ⟨?_, ?_, fun q hq h1 h2 => ?_⟩
  · unfold moveN
    rw [sm4_eq (N := tkN N (qp p) (yv N (qp p) m) 4) (fun k hk => ptN_off (by omega)), sm4_tk (fun k hk => (y1 k hk).1), y2]
  · unfold moveN
    rw [sm4_pt, y2, sm4_eq (N := N) (fun k hk => tkN_off (by omega))]
  · have x1 := qp_apart hq hp h1
    have x2 := qp_apart hq ht h2
    exact sm4_eq (fun k hk => moveN_off (by omega) (by omega))
theorem I_move {N : Nat → Nat} {c p t m : Nat} (I : Inv N c) (hB : Bal N) (hp : p < 8) (ht : t < 9) (hpt : p ≠ t) (hm0 : 0 < m) (hm : m ≤ sm4 N (qp p)) (hh : sm4 N (qp t) + m ≤ if t < 8 then 81 else 9) : Inv (moveN N p t m) c ∧ Bal (moveN N p t m) := by
  obtain ⟨sp, st, so⟩ := mv_p (show p < 9 by omega) ht hpt hm0 hm
  have g1 := qp_ge p
  have g2 := qp_ge t
  have l1 := qp_lt p
  have l2 := qp_lt t
  have e47 : qp 8 = 47 := rfl
  have nall : ∀ j, (j < 7 ∨ 51 ≤ j) → moveN N p t m j = N j := fun j hj => moveN_off (by omega) (by omega)
  have h81 : sm4 N (qp t) + m ≤ 81 := by
    split at hh <;> omega
  constructor
  · refine I.ofD (fun j hj => nall j (by omega)) (fun a ha => ?_) ?_
    · rw [← qp8 ha]
      by_cases ea : a = p
      · subst ea
        rw [sp]
        have := I.q (p := a) (by omega)
        omega
      · by_cases eb : a = t
        · subst eb
          rw [st]; exact h81
        · rw [so a (by omega) ea eb]; exact I.q (by omega)
    · rw [← e47]
      by_cases eb : 8 = t
      · subst eb
        rw [st]
        simpa using hh
      · rw [so 8 (by omega) (by omega) eb]; exact I.2.2.2.1
  · unfold Bal at hB ⊢
    rw [nall 2 (by omega), nall 3 (by omega), nall 4 (by omega), ← e47]
    rw [← e47] at hB
    by_cases eb : t = 8
    · subst eb
      have h1 := su_ch (g := po N) (g' := po (moveN N p 8 m)) (p := p) 8 hp (fun q hq hne => so q (by omega) hne (by omega))
      have h2 : po (moveN N p 8 m) p = po N p - m := sp
      have h3 : m ≤ po N p := hm
      rw [st]
      omega
    · have h1 := su_ch (g := fun q => if q = p then po N p - m else po N q) (g' := po (moveN N p t m)) (p := t) 8 (by omega) (fun q hq hne => by
        show po (moveN N p t m) q = if q = p then po N p - m else po N q
        by_cases e : q = p
        · subst e
          rw [if_pos rfl]; exact sp
        · rw [if_neg e]; exact so q (by omega) e hne)
      have h2 := su_ch (g := po N) (g' := fun q => if q = p then po N p - m else po N q) (p := p) 8 hp (fun q hq hne => if_neg hne)
      have h3 : (if p = p then po N p - m else po N p) = po N p - m := if_pos rfl
      have h4 : (if t = p then po N p - m else po N t) = po N t := if_neg (fun z => hpt z.symm)
      have h5 : po (moveN N p t m) t = po N t + m := st
      have h6 : m ≤ po N p := hm
      rw [h3] at h2
      rw [h4, h5] at h1
      rw [so 8 (by omega) (by omega) (fun z => eb z.symm)]
      omega
theorem I_paint {N : Nat → Nat} {c P : Nat} (I : Inv N c) (hB : Bal N) (hP : P < 6) (hle : N 0 ≤ sm4 N 47) : Inv (pntN N P) (c + 1) ∧ Bal (pntN N P) ∧ sm4 (pntN N P) 47 = sm4 N 47 - N 0 := by
  have h0 := I.1.1
  have sm3 : sm4 (pn3 N P) 47 = sm4 N 47 := sm4_eq (fun k hk => pn3_n (by omega))
  obtain ⟨y1, y2⟩ := yv_ok (N := pn3 N P) (q := 47) (m := N 0) (by omega) (by omega)
  have hy : ∀ k, k < 4 → yv (pn3 N P) 47 (N 0) k ≤ N (47 + k) := fun k hk => by
    have := (y1 k hk).1
    rw [pn3_n (by omega)] at this
    exact this
  have e47 : sm4 (pntN N P) 47 = sm4 N 47 - N 0 := by
    unfold pntN pn6
    rw [sm4_off (by omega), sm4_off (by omega), sm4_tk (fun k hk => (y1 k hk).1), sm3, y2]
  refine ⟨I.pn hP hy (by rw [y2]; exact hle), ?_, e47⟩
  have h1 := su_eq (g := po N) (g' := po (pntN N P)) 8 (fun q hq => po_same hq (fun j h7 h47 _ => pn6_m h47 (by omega) (by omega)))
  have n3 : pntN N P 3 = N 3 + N 0 := by
    unfold pntN pn6
    rw [upN_n (by omega), upN_s]
  unfold Bal at hB ⊢
  rw [h1, e47, n3, show pntN N P 2 = N 2 from pn6_m (by omega) (by omega) (by omega), show pntN N P 4 = N 4 from pn6_m (by omega) (by omega) (by omega)]
  omega
theorem sk_v {N : Nat → Nat} {p : Nat} (hp : p < 9) : sm4 (skN N p) (qp p) = 0 ∧ (∀ q, q < 9 → q ≠ p → sm4 (skN N p) (qp q) = sm4 N (qp q)) ∧ skN N p 4 = N 4 + sm4 N (qp p) ∧ ∀ j, (j < 7 ∨ 51 ≤ j) → j ≠ 4 → skN N p j = N j := by
  have hg := qp_ge p
  have hl := qp_lt p
  refine ⟨?_, fun q hq hne => ?_, ?_, fun j hj h4 => ?_⟩
  · unfold skN
    rw [sm4_off (by omega), sm4_zr]
  · have x1 := qp_apart hq hp hne
    have hgq := qp_ge q
    unfold skN
    rw [sm4_off (by omega), sm4_eq (N := N) (fun k hk => zrN_off (by omega))]
  · unfold skN
    rw [upN_s]
  · unfold skN
    rw [upN_n h4, zrN_off (by omega)]
theorem I_sink {N : Nat → Nat} {c p : Nat} (I : Inv N c) (hB : Bal N) (hp : p < 9) : Inv (skN N p) c ∧ Bal (skN N p) := by
  obtain ⟨s0, so, s4', sn⟩ := sk_v (N := N) hp
  have e47 : qp 8 = 47 := rfl
  constructor
  · refine I.ofD (fun j hj => sn j (by omega) (by omega)) (fun a ha => ?_) ?_
    · rw [← qp8 ha]
      by_cases e : a = p
      · subst e
        rw [s0]; omega
      · rw [so a (by omega) e]; exact I.q (by omega)
    · rw [← e47]
      by_cases e : 8 = p
      · subst e
        rw [s0]; omega
      · rw [so 8 (by omega) e]; exact I.2.2.2.1
  · unfold Bal at hB ⊢
    rw [sn 2 (by omega) (by omega), sn 3 (by omega) (by omega), s4', ← e47]
    rw [← e47] at hB
    by_cases e : p = 8
    · subst e
      have h1 := su_eq (g := po N) (g' := po (skN N 8)) 8 (fun q hq => so q (by omega) (by omega))
      rw [h1, s0]
      omega
    · have h1 := su_ch (g := po N) (g' := po (skN N p)) (p := p) 8 (by omega) (fun q hq hne => so q (by omega) hne)
      have h2 : po (skN N p) p = 0 := s0
      have h3 : po N p = sm4 N (qp p) := rfl
      rw [so 8 (by omega) (fun z => e z.symm)]
      omega
theorem I_off {N : Nat → Nat} {c j v : Nat} (I : Inv N c) (hB : Bal N) (hj : j = 6) : Inv (upN N j v) c ∧ Bal (upN N j v) := by
  subst hj
  have so : ∀ q, q < 9 → sm4 (upN N 6 v) (qp q) = sm4 N (qp q) := fun q hq => sm4_off (by have := qp_ge q; omega)
  constructor
  · refine I.ofD (fun j hj => upN_n (by omega)) (fun a ha => ?_) ?_
    · rw [← qp8 ha, so a (by omega)]; exact I.q (by omega)
    · have := so 8 (by omega)
      rw [show qp 8 = 47 from rfl] at this
      rw [this]; exact I.2.2.2.1
  · have h1 := su_eq (g := po N) (g' := po (upN N 6 v)) 8 (fun q hq => so q (by omega))
    have h2 := so 8 (by omega)
    rw [show qp 8 = 47 from rfl] at h2
    unfold Bal at hB ⊢
    rw [h1, h2, upN_n (by omega), upN_n (by omega), upN_n (by omega)]
    exact hB
theorem I_rinse {N : Nat → Nat} {c : Nat} (I : Inv N c) (hB : Bal N) : Inv (rinseR N).2 c ∧ Bal (rinseR N).2 := by
  obtain ⟨a, b⟩ := I_sink I hB (p := 8) (by omega)
  exact I_off a b rfl
theorem I_set {N : Nat → Nat} {c i v : Nat} (I : Inv N c) (hB : Bal N) (hi : i < 2) (h0 : i = 0 → 1 ≤ v ∧ v ≤ 9) (h1 : i = 1 → v ≤ 60) : Inv (upN N i v) c ∧ Bal (upN N i v) := by
  obtain ⟨a, b, d, e, g, k⟩ := I
  have so : ∀ q, q < 9 → sm4 (upN N i v) (qp q) = sm4 N (qp q) := fun q hq => sm4_off (by have := qp_ge q; omega)
  constructor
  · refine ⟨?_, ?_, fun p hp => ?_, ?_, fun p hp => ?_, ?_⟩
    · by_cases ei : i = 0
      · subst ei; rw [upN_s]; exact h0 rfl
      · rw [upN_n (by omega)]; exact a
    · by_cases ei : i = 1
      · subst ei; rw [upN_s]; exact h1 rfl
      · rw [upN_n (by omega)]; exact b
    · rw [sm4_off (by omega)]; exact d p hp
    · rw [sm4_off (by omega)]; exact e
    · rw [upN_n (by omega), upN_n (by omega), upN_n (by omega), upN_n (by omega), upN_n (by omega), upN_n (by omega), upN_n (by omega), upN_n (by omega)]
      exact g p hp
    · unfold sm6 at k ⊢
      rw [upN_n (by omega), upN_n (by omega), upN_n (by omega), upN_n (by omega), upN_n (by omega), upN_n (by omega), upN_n (by omega)]
      exact k
  · have h1 := su_eq (g := po N) (g' := po (upN N i v)) 8 (fun q hq => so q (by omega))
    have h2 := so 8 (by omega)
    rw [show qp 8 = 47 from rfl] at h2
    unfold Bal at hB ⊢
    rw [h1, h2, upN_n (by omega), upN_n (by omega), upN_n (by omega)]
    exact hB
theorem I_want {N : Nat → Nat} {c P a b d : Nat} (I : Inv N c) (hB : Bal N) (hP : P < 6) (ha : a ≤ 100) (hb : b ≤ 100) (hd : d ≤ 100) : Inv (wnN N P a b d) c ∧ Bal (wnN N P a b d) := by
  refine ⟨I.wn hP ha hb hd, ?_⟩
  have h1 := su_eq (g := po N) (g' := po (wnN N P a b d)) 8 (fun q hq => po_same hq (fun j h7 h47 _ => wnN_n (by omega)))
  have h2 : sm4 (wnN N P a b d) 47 = sm4 N 47 := sm4_eq (fun k hk => wnN_n (by omega))
  unfold Bal at hB ⊢
  rw [h1, h2, wnN_n (by omega), wnN_n (by omega), wnN_n (by omega)]
  exact hB
