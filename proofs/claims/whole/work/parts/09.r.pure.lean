-- pure: the nearest pot asked
theorem B_nearest {σ : Nat → Nat → Int32} {f : Nat → Int32} {N : Nat → Nat} {c : Nat} (h : RS σ N) (hf : RM f N) (I : Inv N c) (x y : Int32) (g : Nat → Int32) : ∃ (r : Int32) (g' : Nat → Int32), s_X4_nearest (σ 1) (σ 3) x y = some r ∧ s_X5_nearest f g x y = some (r, g') := by
  unfold s_X4_nearest s_X5_nearest
  rw [wi6, wi2, isPanel_l]
  rcases in_cases x 0 5 with ⟨hx, -⟩ | ⟨hx, x1, x2⟩
  · exact ⟨-1, g, by rw [cl_e hx]; rfl, by rw [cl_e hx]; rfl⟩
  obtain ⟨P, -, hP, rfl⟩ := rng_n (a := 0) (b := 5) (by omega) (by omega) x1 x2
  have hPp : P < 6 := by omega
  have hI := I.2.2.2.2.1 P hPp
  rcases in_cases y 0 1 with ⟨hy, -⟩ | ⟨hy, y1, y2⟩
  · exact ⟨-2, g, by rw [cl_e hx, if_neg one_ne, cl_e hy]; rfl, by rw [cl_e hx, if_neg one_ne, cl_e hy]; rfl⟩
  obtain ⟨g1, m1⟩ := mNear hf I hPp g
  have c1 := cNear h.2.1 h.2.2.2.1 I hPp
  obtain ⟨-, ok⟩ := near_ok I hPp 8
  rw [cl_e hx, if_neg one_ne, cl_e hy, if_neg one_ne, cl_e c1, cl_e hx, if_neg one_ne, cl_e hy, if_neg one_ne, cl_e m1]
  dsimp only
  rcases ok with e | ⟨j, hj, e, h0, -⟩
  · exact ⟨-6, g1, by rw [e, if_pos rfl], by rw [e, if_pos rfl]⟩
  · have hne : ¬ nI j = -6 := fun q => absurd (show nI j < 0 by rw [q]; decide) (nI_pos (by omega))
    rw [e, if_neg hne, if_neg hne]
    by_cases y0 : y = 0
    · exact ⟨nI j, g1, by rw [if_pos y0], by rw [if_pos y0]⟩
    · obtain ⟨g2, m2⟩ := mDistOf (g := g1) hf I hPp hj h0
      have cd : s_X2_distanceOfPaint (σ 1) (σ 3) (nI P) (nI j) = some (nI (dp N P j)) := cDistPaint h.2.1 h.2.2.2.1 hPp (by omega) h0 (I.q (by omega)) (by omega) (by omega) (by omega)
      exact ⟨nI (dp N P j), g2, by rw [if_neg y0, cl_e cd], by rw [if_neg y0, cl_e m2]⟩
