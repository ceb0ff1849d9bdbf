/-! What a line changes of a Linen. Printed by wip/src/mk81.py -/
theorem si_up {h : xm_H} {p k : Nat} {v : Int32} : (xm_si h p k v).1 p = up (h.1 p) k v := by
  funext j
  by_cases hj : j = k
  · rw [hj, xm_ra, up_a]
  · rw [xm_rk hj, up_k hj]
theorem rl_takes {f0 f1 f2 f3 f4 f5 f6 f7 T : Nat → Int32} {i : Nat} {v : Int32} (hi : i < 6) (h : rl_lin f0 f1 f2 f3 f4 f5 f6 f7 T) : rl_lin f0 f1 (up f2 i v) f3 f4 f5 f6 f7 (up T (5 + i) v) := by
  obtain ⟨l0, l1, l2, l3, l4, l5, l6, l7, l8, l9, l10, l11, l12, l13, l14, l15, l16, l17⟩ := h
  refine ⟨?_, ?_, ?_, ?_, ?_, ?_, ?_, ?_, ?_, ?_, ?_, ?_, ?_, ?_, ?_, ?_, ?_, ?_⟩
  · simp (disch := omega) only [up_k]; exact l0
  · simp (disch := omega) only [up_k]; exact l1
  · simp (disch := omega) only [up_k]; exact l2
  · simp (disch := omega) only [up_k]; exact l3
  · simp (disch := omega) only [up_k]; exact l4
  · simp (disch := omega) only [up_k]; exact l5
  · simp (disch := omega) only [up_k]; exact l6
  · simp (disch := omega) only [up_k]; exact l7
  · simp (disch := omega) only [up_k]; exact l8
  · simp (disch := omega) only [up_k]; exact l9
  · simp (disch := omega) only [up_k]; exact l10
  · simp (disch := omega) only [up_k]; exact l11
  · simp (disch := omega) only [up_k]; exact l12
  · simp (disch := omega) only [up_k]; exact l13
  · intro e k hk
    simp (disch := omega) only [up_k] at e
    by_cases hki : k = i
    · rw [hki, up_a, up_a]
    · rw [up_k hki, up_k (by omega)]; exact l14 e k hk
  · intro j h1 h2
    simp (disch := omega) only [up_k] at h1 ⊢
    exact l15 j h1 h2
  · intro j h1 h2
    simp (disch := omega) only [up_k] at h1 ⊢
    exact l16 j h1 h2
  · intro j h1 h2
    simp (disch := omega) only [up_k] at h1 ⊢
    exact l17 j h1 h2
theorem rl_call {f0 f1 f2 f3 f4 f5 f6 f7 T : Nat → Int32} {c : Nat} {a b : Int32} (hc : c < 6) (e19 : T 19 = nI c) (h : rl_lin f0 f1 f2 f3 f4 f5 f6 f7 T) : rl_lin (up f0 6 (nI (c + 1))) f1 f2 (up f3 c a) (up f4 c b) f5 f6 f7 (up (up (up T (24 + 2 * c) a) (25 + 2 * c) b) 19 (nI (c + 1))) := by
  obtain ⟨l0, l1, l2, l3, l4, l5, l6, l7, l8, l9, l10, l11, l12, l13, l14, l15, l16, l17⟩ := h
  refine ⟨?_, ?_, ?_, ?_, ?_, ?_, ?_, ?_, ?_, ?_, ?_, ?_, ?_, ?_, ?_, ?_, ?_, ?_⟩
  · simp (disch := omega) only [up_k]; exact l0
  · simp (disch := omega) only [up_k]; exact l1
  · simp (disch := omega) only [up_k]; exact l2
  · simp (disch := omega) only [up_k]; exact l3
  · simp (disch := omega) only [up_k]; exact l4
  · simp (disch := omega) only [up_k]; exact l5
  · rw [up_a, up_a]
  · simp (disch := omega) only [up_k]; exact l7
  · simp (disch := omega) only [up_k]; exact l8
  · simp (disch := omega) only [up_k]; exact l9
  · simp (disch := omega) only [up_k]; exact l10
  · simp (disch := omega) only [up_k]; exact l11
  · simp (disch := omega) only [up_k]; exact l12
  · simp (disch := omega) only [up_k]; exact l13
  · intro e k hk
    simp (disch := omega) only [up_k] at e ⊢
    exact l14 e k hk
  · intro j h1 h2
    rw [up_a] at h1
    have hj : j < c + 1 := (nI_ltI (by omega) (by omega)).mp h1
    by_cases hjc : j = c
    · subst hjc
      constructor
      · rw [up_a, up_k (by omega), up_k (by omega), up_a]
      · rw [up_a, up_k (by omega), up_a]
    · have hq := l15 j (by rw [e19]; exact nI_lt (by omega) (by omega)) h2
      constructor
      · rw [up_k hjc, up_k (by omega), up_k (by omega), up_k (by omega)]; exact hq.1
      · rw [up_k hjc, up_k (by omega), up_k (by omega), up_k (by omega)]; exact hq.2
  · intro j h1 h2
    simp (disch := omega) only [up_k] at h1 ⊢
    exact l16 j h1 h2
  · intro j h1 h2
    simp (disch := omega) only [up_k] at h1 ⊢
    exact l17 j h1 h2
theorem rl_slips {f0 f1 f2 f3 f4 f5 f6 f7 T : Nat → Int32} {a b : Int32} (h : rl_lin f0 f1 f2 f3 f4 f5 f6 f7 T) : rl_lin (up (up f0 7 a) 8 b) f1 f2 f3 f4 f5 f6 f7 (up (up T 11 a) 12 b) := by
  obtain ⟨l0, l1, l2, l3, l4, l5, l6, l7, l8, l9, l10, l11, l12, l13, l14, l15, l16, l17⟩ := h
  refine ⟨?_, ?_, ?_, ?_, ?_, ?_, ?_, ?_, ?_, ?_, ?_, ?_, ?_, ?_, ?_, ?_, ?_, ?_⟩
  · simp (disch := omega) only [up_k]; exact l0
  · simp (disch := omega) only [up_k]; exact l1
  · simp (disch := omega) only [up_k]; exact l2
  · simp (disch := omega) only [up_k]; exact l3
  · simp (disch := omega) only [up_k]; exact l4
  · simp (disch := omega) only [up_k]; exact l5
  · simp (disch := omega) only [up_k]; exact l6
  · rw [up_k (by decide), up_a, up_k (by decide), up_a]
  · rw [up_a, up_a]
  · simp (disch := omega) only [up_k]; exact l9
  · simp (disch := omega) only [up_k]; exact l10
  · simp (disch := omega) only [up_k]; exact l11
  · simp (disch := omega) only [up_k]; exact l12
  · simp (disch := omega) only [up_k]; exact l13
  · intro e k hk
    simp (disch := omega) only [up_k] at e ⊢
    exact l14 e k hk
  · intro j h1 h2
    simp (disch := omega) only [up_k] at h1 ⊢
    exact l15 j h1 h2
  · intro j h1 h2
    simp (disch := omega) only [up_k] at h1 ⊢
    exact l16 j h1 h2
  · intro j h1 h2
    simp (disch := omega) only [up_k] at h1 ⊢
    exact l17 j h1 h2
theorem rl_wish {f0 f1 f2 f3 f4 f5 f6 f7 T : Nat → Int32} {a b c e0 : Int32} (h : rl_lin f0 f1 f2 f3 f4 f5 f6 f7 T) : rl_lin f0 (up (up (up (up f1 0 a) 1 b) 2 c) 3 e0) f2 f3 f4 f5 f6 f7 (up (up (up (up (up T 13 1) 14 a) 15 b) 16 c) 17 e0) := by
  obtain ⟨l0, l1, l2, l3, l4, l5, l6, l7, l8, l9, l10, l11, l12, l13, l14, l15, l16, l17⟩ := h
  refine ⟨?_, ?_, ?_, ?_, ?_, ?_, ?_, ?_, ?_, ?_, ?_, ?_, ?_, ?_, ?_, ?_, ?_, ?_⟩
  · simp (disch := omega) only [up_k]; exact l0
  · simp (disch := omega) only [up_k]; exact l1
  · simp (disch := omega) only [up_k]; exact l2
  · simp (disch := omega) only [up_k]; exact l3
  · simp (disch := omega) only [up_k]; exact l4
  · simp (disch := omega) only [up_k]; exact l5
  · simp (disch := omega) only [up_k]; exact l6
  · simp (disch := omega) only [up_k]; exact l7
  · simp (disch := omega) only [up_k]; exact l8
  · simp (disch := omega) only [up_k]; exact l9
  · simp (disch := omega) only [up_k]; exact l10
  · simp (disch := omega) only [up_k]; exact l11
  · intro e
    simp (disch := omega) only [up_k, up_a] at e
    exact absurd e (by decide)
  · intro e
    refine ⟨?_, ?_, ?_, ?_⟩
    · simp (disch := omega) only [up_k, up_a]
    · simp (disch := omega) only [up_k, up_a]
    · simp (disch := omega) only [up_k, up_a]
    · simp (disch := omega) only [up_k, up_a]
  · intro e k hk
    simp (disch := omega) only [up_k] at e ⊢
    exact l14 e k hk
  · intro j h1 h2
    simp (disch := omega) only [up_k] at h1 ⊢
    exact l15 j h1 h2
  · intro j h1 h2
    simp (disch := omega) only [up_k] at h1 ⊢
    exact l16 j h1 h2
  · intro j h1 h2
    simp (disch := omega) only [up_k] at h1 ⊢
    exact l17 j h1 h2
theorem rl_press {f0 f1 f2 f3 f4 f5 f6 f7 T : Nat → Int32} {a : Int32} (h : rl_lin f0 f1 f2 f3 f4 f5 f6 f7 T) : rl_lin (up f0 9 a) f1 f2 f3 f4 f5 f6 f7 (up T 18 a) := by
  obtain ⟨l0, l1, l2, l3, l4, l5, l6, l7, l8, l9, l10, l11, l12, l13, l14, l15, l16, l17⟩ := h
  refine ⟨?_, ?_, ?_, ?_, ?_, ?_, ?_, ?_, ?_, ?_, ?_, ?_, ?_, ?_, ?_, ?_, ?_, ?_⟩
  · simp (disch := omega) only [up_k]; exact l0
  · simp (disch := omega) only [up_k]; exact l1
  · simp (disch := omega) only [up_k]; exact l2
  · simp (disch := omega) only [up_k]; exact l3
  · simp (disch := omega) only [up_k]; exact l4
  · simp (disch := omega) only [up_k]; exact l5
  · simp (disch := omega) only [up_k]; exact l6
  · simp (disch := omega) only [up_k]; exact l7
  · simp (disch := omega) only [up_k]; exact l8
  · rw [up_a, up_a]
  · simp (disch := omega) only [up_k]; exact l10
  · simp (disch := omega) only [up_k]; exact l11
  · simp (disch := omega) only [up_k]; exact l12
  · simp (disch := omega) only [up_k]; exact l13
  · intro e k hk
    simp (disch := omega) only [up_k] at e ⊢
    exact l14 e k hk
  · intro j h1 h2
    simp (disch := omega) only [up_k] at h1 ⊢
    exact l15 j h1 h2
  · intro j h1 h2
    simp (disch := omega) only [up_k] at h1 ⊢
    exact l16 j h1 h2
  · intro j h1 h2
    simp (disch := omega) only [up_k] at h1 ⊢
    exact l17 j h1 h2
theorem rl_pair {f0 f1 f2 f3 f4 f5 f6 f7 T : Nat → Int32} {c : Nat} {a b : Int32} (hc : c < 4) (e20 : T 20 = nI c) (h : rl_lin f0 f1 f2 f3 f4 f5 f6 f7 T) : rl_lin (up f0 10 (nI (c + 1))) f1 f2 f3 f4 (up f5 c a) (up f6 c b) f7 (up (up (up T (36 + 2 * c) a) (37 + 2 * c) b) 20 (nI (c + 1))) := by
  obtain ⟨l0, l1, l2, l3, l4, l5, l6, l7, l8, l9, l10, l11, l12, l13, l14, l15, l16, l17⟩ := h
  refine ⟨?_, ?_, ?_, ?_, ?_, ?_, ?_, ?_, ?_, ?_, ?_, ?_, ?_, ?_, ?_, ?_, ?_, ?_⟩
  · simp (disch := omega) only [up_k]; exact l0
  · simp (disch := omega) only [up_k]; exact l1
  · simp (disch := omega) only [up_k]; exact l2
  · simp (disch := omega) only [up_k]; exact l3
  · simp (disch := omega) only [up_k]; exact l4
  · simp (disch := omega) only [up_k]; exact l5
  · simp (disch := omega) only [up_k]; exact l6
  · simp (disch := omega) only [up_k]; exact l7
  · simp (disch := omega) only [up_k]; exact l8
  · simp (disch := omega) only [up_k]; exact l9
  · rw [up_a, up_a]
  · simp (disch := omega) only [up_k]; exact l11
  · simp (disch := omega) only [up_k]; exact l12
  · simp (disch := omega) only [up_k]; exact l13
  · intro e k hk
    simp (disch := omega) only [up_k] at e ⊢
    exact l14 e k hk
  · intro j h1 h2
    simp (disch := omega) only [up_k] at h1 ⊢
    exact l15 j h1 h2
  · intro j h1 h2
    rw [up_a] at h1
    have hj : j < c + 1 := (nI_ltI (by omega) (by omega)).mp h1
    by_cases hjc : j = c
    · subst hjc
      constructor
      · rw [up_a, up_k (by omega), up_k (by omega), up_a]
      · rw [up_a, up_k (by omega), up_a]
    · have hq := l16 j (by rw [e20]; exact nI_lt (by omega) (by omega)) h2
      constructor
      · rw [up_k hjc, up_k (by omega), up_k (by omega), up_k (by omega)]; exact hq.1
      · rw [up_k hjc, up_k (by omega), up_k (by omega), up_k (by omega)]; exact hq.2
  · intro j h1 h2
    simp (disch := omega) only [up_k] at h1 ⊢
    exact l17 j h1 h2
theorem rl_pile {f0 f1 f2 f3 f4 f5 f6 f7 T : Nat → Int32} {c : Nat} {a : Int32} (hc : c < 6) (e21 : T 21 = nI c) (h : rl_lin f0 f1 f2 f3 f4 f5 f6 f7 T) : rl_lin (up f0 11 (nI (c + 1))) f1 f2 f3 f4 f5 f6 (up f7 c a) (up (up T (44 + c) a) 21 (nI (c + 1))) := by
  obtain ⟨l0, l1, l2, l3, l4, l5, l6, l7, l8, l9, l10, l11, l12, l13, l14, l15, l16, l17⟩ := h
  refine ⟨?_, ?_, ?_, ?_, ?_, ?_, ?_, ?_, ?_, ?_, ?_, ?_, ?_, ?_, ?_, ?_, ?_, ?_⟩
  · simp (disch := omega) only [up_k]; exact l0
  · simp (disch := omega) only [up_k]; exact l1
  · simp (disch := omega) only [up_k]; exact l2
  · simp (disch := omega) only [up_k]; exact l3
  · simp (disch := omega) only [up_k]; exact l4
  · simp (disch := omega) only [up_k]; exact l5
  · simp (disch := omega) only [up_k]; exact l6
  · simp (disch := omega) only [up_k]; exact l7
  · simp (disch := omega) only [up_k]; exact l8
  · simp (disch := omega) only [up_k]; exact l9
  · simp (disch := omega) only [up_k]; exact l10
  · rw [up_a, up_a]
  · simp (disch := omega) only [up_k]; exact l12
  · simp (disch := omega) only [up_k]; exact l13
  · intro e k hk
    simp (disch := omega) only [up_k] at e ⊢
    exact l14 e k hk
  · intro j h1 h2
    simp (disch := omega) only [up_k] at h1 ⊢
    exact l15 j h1 h2
  · intro j h1 h2
    simp (disch := omega) only [up_k] at h1 ⊢
    exact l16 j h1 h2
  · intro j h1 h2
    rw [up_a] at h1
    have hj : j < c + 1 := (nI_ltI (by omega) (by omega)).mp h1
    by_cases hjc : j = c
    · subst hjc
      rw [up_a, up_k (by omega), up_a]
    · have hq := l17 j (by rw [e21]; exact nI_lt (by omega) (by omega)) h2
      rw [up_k hjc, up_k (by omega), up_k (by omega)]; exact hq
theorem rl_lend {f0 f1 f2 f3 f4 f5 f6 f7 T : Nat → Int32} {a : Int32} (h5 : ∀ k, k < 6 → f2 k = T (5 + k)) (h : rl_lin f0 f1 f2 f3 f4 f5 f6 f7 T) : rl_lin (up f0 0 a) f1 f2 f3 f4 f5 f6 f7 (up T 22 a) := by
  obtain ⟨l0, l1, l2, l3, l4, l5, l6, l7, l8, l9, l10, l11, l12, l13, l14, l15, l16, l17⟩ := h
  refine ⟨?_, ?_, ?_, ?_, ?_, ?_, ?_, ?_, ?_, ?_, ?_, ?_, ?_, ?_, ?_, ?_, ?_, ?_⟩
  · rw [up_a, up_a]
  · simp (disch := omega) only [up_k]; exact l1
  · simp (disch := omega) only [up_k]; exact l2
  · simp (disch := omega) only [up_k]; exact l3
  · simp (disch := omega) only [up_k]; exact l4
  · simp (disch := omega) only [up_k]; exact l5
  · simp (disch := omega) only [up_k]; exact l6
  · simp (disch := omega) only [up_k]; exact l7
  · simp (disch := omega) only [up_k]; exact l8
  · simp (disch := omega) only [up_k]; exact l9
  · simp (disch := omega) only [up_k]; exact l10
  · simp (disch := omega) only [up_k]; exact l11
  · simp (disch := omega) only [up_k]; exact l12
  · simp (disch := omega) only [up_k]; exact l13
  · intro e k hk
    rw [up_k (by omega)]
    exact h5 k hk
  · intro j h1 h2
    simp (disch := omega) only [up_k] at h1 ⊢
    exact l15 j h1 h2
  · intro j h1 h2
    simp (disch := omega) only [up_k] at h1 ⊢
    exact l16 j h1 h2
  · intro j h1 h2
    simp (disch := omega) only [up_k] at h1 ⊢
    exact l17 j h1 h2
