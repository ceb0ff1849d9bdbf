/-! What a line tells is in its bounds. Printed by wip/src/mk83.py -/
section PURE
variable {n : Nat} {B : Nat → Nat}
theorem pn_ok {lo hi p v q : Nat} (h : pn n B lo hi p = .ok (v, q)) : lo ≤ v ∧ v ≤ hi ∧ (p ≤ n → p ≤ q ∧ q ≤ n) := by
  unfold pn at h
  split at h
  · split at h
    · rename_i hb
      cases h
      exact ⟨hb.1, hb.2, fun hp => ⟨(ten_le hp).1, (ten_le hp).2.2⟩⟩
    · cases h
  · cases h
theorem pw_ok {W : List Nat} {p q : Nat} (h : pw n B W p = .ok q) : p ≤ n → p ≤ q ∧ q ≤ n := by
  unfold pw at h
  split at h
  · cases h
    exact fun hp => ⟨(ten_le hp).1, (ten_le hp).2.2⟩
  · cases h
theorem pch_ok {S : List Nat} {p v q : Nat} (h : pch n B S p = .ok (v, q)) : ptk n B (.ok p) S = some v ∧ (p ≤ n → p ≤ q ∧ q ≤ n) := by
  unfold pch at h
  split at h
  · rename_i i hi
    cases h
    exact ⟨hi, fun hp => ⟨(ten_le hp).1, (ten_le hp).2.2⟩⟩
  · cases h
theorem pwn_ok {W : List Nat} {lo hi q : Nat} {r : Except (Nat × Nat) Nat} (h : er2 (pwn n B W lo hi r) = .ok q) : ∃ p, r = .ok p ∧ lo ≤ gv (pwn n B W lo hi r) ∧ gv (pwn n B W lo hi r) ≤ hi ∧ (p ≤ n → p ≤ q ∧ q ≤ n) := by
  have h1 := er2_ok h
  obtain ⟨p1, h2, h3⟩ := ebn_ok h1
  obtain ⟨p, h4, h5⟩ := ebn_ok h2
  obtain ⟨a, b, c⟩ := pn_ok h3
  refine ⟨p, h4, a, b, fun hp => ?_⟩
  have u := pw_ok h5 hp
  have v := c u.2
  omega
theorem pwc_ok {W S : List Nat} {q : Nat} {r : Except (Nat × Nat) Nat} (h : er2 (pwc n B W S r) = .ok q) : ∃ p p1, r = .ok p ∧ ptk n B (.ok p1) S = some (gv (pwc n B W S r)) ∧ (p ≤ n → p ≤ q ∧ q ≤ n) := by
  have h1 := er2_ok h
  obtain ⟨p1, h2, h3⟩ := ebn_ok h1
  obtain ⟨p, h4, h5⟩ := ebn_ok h2
  obtain ⟨a, c⟩ := pch_ok h3
  refine ⟨p, p1, h4, a, fun hp => ?_⟩
  have u := pw_ok h5 hp
  have v := c u.2
  omega
theorem act_lt {p i : Nat} (h : ptk n B (.ok p) sAct = some i) : i < 4 := by
  have e : ptk n B (.ok p) sAct = tkl sAct (rsw n B (.ok p) sAct) 21 0 0 0 := rfl
  rw [e, tkl_act] at h
  split at h
  · cases h; decide
  · split at h
    · cases h; decide
    · split at h
      · cases h; decide
      · split at h
        · cases h; decide
        · cases h
theorem fac_lt {p i : Nat} (h : ptk n B (.ok p) sFac = some i) : i < 3 := by
  have e : ptk n B (.ok p) sFac = tkl sFac (rsw n B (.ok p) sFac) 18 0 0 0 := rfl
  rw [e, tkl_fac] at h
  split at h
  · cases h; decide
  · split at h
    · cases h; decide
    · split at h
      · cases h; decide
      · cases h
theorem hem_lt {p i : Nat} (h : ptk n B (.ok p) sHem = some i) : i < 6 := by
  have e : ptk n B (.ok p) sHem = tkl sHem (rsw n B (.ok p) sHem) 29 0 0 0 := rfl
  rw [e, tkl_hem] at h
  split at h
  · cases h; decide
  · split at h
    · cases h; decide
    · split at h
      · cases h; decide
      · split at h
        · cases h; decide
        · split at h
          · cases h; decide
          · split at h
            · cases h; decide
            · cases h
end PURE
/-- what a LINEN tells, in its bounds -/
def WV (T : Nat → Int32) : Prop := rl_in (T 0) 1 48 ∧ rl_in (T 1) 1 48 ∧ rl_in (T 2) 1 9 ∧ rl_in (T 3) 1 60 ∧ rl_in (T 4) 1 60 ∧ (∀ k, k < 6 → rl_in (T (5 + k)) 1 99) ∧
  rl_in (T 11) 0 50 ∧ rl_in (T 12) 0 50 ∧ (T 13 = 0 ∨ T 13 = 1 ∧ rl_in (T 14) 1 48 ∧ rl_in (T 15) 1 48 ∧ rl_in (T 16) 0 2 ∧ rl_in (T 17) 0 5) ∧ rl_in (T 18) 0 999 ∧
  (∃ c, c ≤ 6 ∧ T 19 = nI c ∧ ∀ j, j < c → rl_in (T (24 + 2 * j)) 0 3 ∧ rl_in (T (25 + 2 * j)) 0 3) ∧
  (∃ c, c ≤ 4 ∧ T 20 = nI c ∧ ∀ j, j < c → rl_in (T (36 + 2 * j)) 1 99 ∧ rl_in (T (37 + 2 * j)) 0 999) ∧
  (∃ c, c ≤ 6 ∧ T 21 = nI c ∧ ∀ j, j < c → rl_in (T (44 + j)) 1 60) ∧ T 23 = 0
theorem WV.wf {T : Nat → Int32} (h : WV T) {i : Nat} (e : T 22 = nI i) (h1 : 1 ≤ i) (h2 : i ≤ 1000) : rl_wf T := by
  obtain ⟨a0, a1, a2, a3, a4, a5, a6, a7, a8, a9, a10, a11, a12, a13⟩ := h
  refine ⟨⟨i, by omega, h2, e⟩, fun e0 => ?_, fun _ => ⟨a0, a1, a2, a3, a4, a5⟩, a6, a7, a8, a9, a10, a11, a12, ⟨0, by omega, a13, fun j hj => absurd hj (by omega)⟩⟩
  rw [e] at e0
  have := (nI_eq (a := i) (b := 0) (by omega) (by omega)).mp e0
  omega
theorem WV.takes {T : Nat → Int32} {i v : Nat} (hi : i < 6) (h1 : 1 ≤ v) (h2 : v ≤ 99) (h : WV T) : WV (up T (5 + i) (nI v)) := by
  obtain ⟨a0, a1, a2, a3, a4, a5, a6, a7, a8, a9, a10, a11, a12, a13⟩ := h
  refine ⟨?_, ?_, ?_, ?_, ?_, ?_, ?_, ?_, ?_, ?_, ?_, ?_, ?_, ?_⟩
  · simp (disch := omega) only [up_k]; exact a0
  · simp (disch := omega) only [up_k]; exact a1
  · simp (disch := omega) only [up_k]; exact a2
  · simp (disch := omega) only [up_k]; exact a3
  · simp (disch := omega) only [up_k]; exact a4
  · intro k hk
    by_cases hki : k = i
    · rw [hki, up_a]; exact ⟨v, h1, h2, rfl⟩
    · rw [up_k (by omega)]; exact a5 k hk
  · simp (disch := omega) only [up_k]; exact a6
  · simp (disch := omega) only [up_k]; exact a7
  · simp (disch := omega) only [up_k]; exact a8
  · simp (disch := omega) only [up_k]; exact a9
  · obtain ⟨c0, h0, h1, h2⟩ := a10
    refine ⟨c0, h0, ?_, fun j hj => ?_⟩
    · simp (disch := omega) only [up_k]; exact h1
    · simp (disch := omega) only [up_k]; exact h2 j hj
  · obtain ⟨c0, h0, h1, h2⟩ := a11
    refine ⟨c0, h0, ?_, fun j hj => ?_⟩
    · simp (disch := omega) only [up_k]; exact h1
    · simp (disch := omega) only [up_k]; exact h2 j hj
  · obtain ⟨c0, h0, h1, h2⟩ := a12
    refine ⟨c0, h0, ?_, fun j hj => ?_⟩
    · simp (disch := omega) only [up_k]; exact h1
    · simp (disch := omega) only [up_k]; exact h2 j hj
  · simp (disch := omega) only [up_k]; exact a13
theorem WV.call {T : Nat → Int32} {c a b : Nat} (hc : c < 6) (e19 : T 19 = nI c) (ha : a ≤ 3) (hb : b ≤ 3) (h : WV T) : WV (up (up (up T (24 + 2 * c) (nI a)) (25 + 2 * c) (nI b)) 19 (nI (c + 1))) := by
  obtain ⟨a0, a1, a2, a3, a4, a5, a6, a7, a8, a9, a10, a11, a12, a13⟩ := h
  refine ⟨?_, ?_, ?_, ?_, ?_, ?_, ?_, ?_, ?_, ?_, ?_, ?_, ?_, ?_⟩
  · simp (disch := omega) only [up_k]; exact a0
  · simp (disch := omega) only [up_k]; exact a1
  · simp (disch := omega) only [up_k]; exact a2
  · simp (disch := omega) only [up_k]; exact a3
  · simp (disch := omega) only [up_k]; exact a4
  · intro k hk
    simp (disch := omega) only [up_k]
    exact a5 k hk
  · simp (disch := omega) only [up_k]; exact a6
  · simp (disch := omega) only [up_k]; exact a7
  · simp (disch := omega) only [up_k]; exact a8
  · simp (disch := omega) only [up_k]; exact a9
  · refine ⟨c + 1, by omega, up_a, fun j hj => ?_⟩
    obtain ⟨c0, h0, h1, h2⟩ := a10
    have hcc : c0 = c := (nI_eq (by omega) (by omega)).mp (h1.symm.trans e19)
    by_cases hjc : j = c
    · subst hjc
      constructor
      · rw [up_k (by omega), up_k (by omega), up_a]; exact ⟨a, Nat.zero_le _, ha, rfl⟩
      · rw [up_k (by omega), up_a]; exact ⟨b, Nat.zero_le _, hb, rfl⟩
    · have hq := h2 j (by omega)
      constructor
      · rw [up_k (by omega), up_k (by omega), up_k (by omega)]; exact hq.1
      · rw [up_k (by omega), up_k (by omega), up_k (by omega)]; exact hq.2
  · obtain ⟨c0, h0, h1, h2⟩ := a11
    refine ⟨c0, h0, ?_, fun j hj => ?_⟩
    · simp (disch := omega) only [up_k]; exact h1
    · simp (disch := omega) only [up_k]; exact h2 j hj
  · obtain ⟨c0, h0, h1, h2⟩ := a12
    refine ⟨c0, h0, ?_, fun j hj => ?_⟩
    · simp (disch := omega) only [up_k]; exact h1
    · simp (disch := omega) only [up_k]; exact h2 j hj
  · simp (disch := omega) only [up_k]; exact a13
theorem WV.slips {T : Nat → Int32} {a b : Nat} (ha : a ≤ 50) (hb : b ≤ 50) (h : WV T) : WV (up (up T 11 (nI a)) 12 (nI b)) := by
  obtain ⟨a0, a1, a2, a3, a4, a5, a6, a7, a8, a9, a10, a11, a12, a13⟩ := h
  refine ⟨?_, ?_, ?_, ?_, ?_, ?_, ?_, ?_, ?_, ?_, ?_, ?_, ?_, ?_⟩
  · simp (disch := omega) only [up_k]; exact a0
  · simp (disch := omega) only [up_k]; exact a1
  · simp (disch := omega) only [up_k]; exact a2
  · simp (disch := omega) only [up_k]; exact a3
  · simp (disch := omega) only [up_k]; exact a4
  · intro k hk
    simp (disch := omega) only [up_k]
    exact a5 k hk
  · rw [up_k (by decide), up_a]; exact ⟨a, Nat.zero_le _, ha, rfl⟩
  · rw [up_a]; exact ⟨b, Nat.zero_le _, hb, rfl⟩
  · simp (disch := omega) only [up_k]; exact a8
  · simp (disch := omega) only [up_k]; exact a9
  · obtain ⟨c0, h0, h1, h2⟩ := a10
    refine ⟨c0, h0, ?_, fun j hj => ?_⟩
    · simp (disch := omega) only [up_k]; exact h1
    · simp (disch := omega) only [up_k]; exact h2 j hj
  · obtain ⟨c0, h0, h1, h2⟩ := a11
    refine ⟨c0, h0, ?_, fun j hj => ?_⟩
    · simp (disch := omega) only [up_k]; exact h1
    · simp (disch := omega) only [up_k]; exact h2 j hj
  · obtain ⟨c0, h0, h1, h2⟩ := a12
    refine ⟨c0, h0, ?_, fun j hj => ?_⟩
    · simp (disch := omega) only [up_k]; exact h1
    · simp (disch := omega) only [up_k]; exact h2 j hj
  · simp (disch := omega) only [up_k]; exact a13
theorem WV.wish {T : Nat → Int32} {a b c f : Nat} (ha : 1 ≤ a ∧ a ≤ 48) (hb : 1 ≤ b ∧ b ≤ 48) (hc : c ≤ 2) (hf : f ≤ 5) (h : WV T) : WV (up (up (up (up (up T 13 1) 14 (nI a)) 15 (nI b)) 16 (nI c)) 17 (nI f)) := by
  obtain ⟨a0, a1, a2, a3, a4, a5, a6, a7, a8, a9, a10, a11, a12, a13⟩ := h
  refine ⟨?_, ?_, ?_, ?_, ?_, ?_, ?_, ?_, ?_, ?_, ?_, ?_, ?_, ?_⟩
  · simp (disch := omega) only [up_k]; exact a0
  · simp (disch := omega) only [up_k]; exact a1
  · simp (disch := omega) only [up_k]; exact a2
  · simp (disch := omega) only [up_k]; exact a3
  · simp (disch := omega) only [up_k]; exact a4
  · intro k hk
    simp (disch := omega) only [up_k]
    exact a5 k hk
  · simp (disch := omega) only [up_k]; exact a6
  · simp (disch := omega) only [up_k]; exact a7
  · refine Or.inr ⟨?_, ⟨a, ha.1, ha.2, ?_⟩, ⟨b, hb.1, hb.2, ?_⟩, ⟨c, Nat.zero_le _, hc, ?_⟩, ⟨f, Nat.zero_le _, hf, ?_⟩⟩
    · simp (disch := omega) only [up_k, up_a]
    · simp (disch := omega) only [up_k, up_a]
    · simp (disch := omega) only [up_k, up_a]
    · simp (disch := omega) only [up_k, up_a]
    · simp (disch := omega) only [up_k, up_a]
  · simp (disch := omega) only [up_k]; exact a9
  · obtain ⟨c0, h0, h1, h2⟩ := a10
    refine ⟨c0, h0, ?_, fun j hj => ?_⟩
    · simp (disch := omega) only [up_k]; exact h1
    · simp (disch := omega) only [up_k]; exact h2 j hj
  · obtain ⟨c0, h0, h1, h2⟩ := a11
    refine ⟨c0, h0, ?_, fun j hj => ?_⟩
    · simp (disch := omega) only [up_k]; exact h1
    · simp (disch := omega) only [up_k]; exact h2 j hj
  · obtain ⟨c0, h0, h1, h2⟩ := a12
    refine ⟨c0, h0, ?_, fun j hj => ?_⟩
    · simp (disch := omega) only [up_k]; exact h1
    · simp (disch := omega) only [up_k]; exact h2 j hj
  · simp (disch := omega) only [up_k]; exact a13
theorem WV.press {T : Nat → Int32} {a : Nat} (ha : a ≤ 999) (h : WV T) : WV (up T 18 (nI a)) := by
  obtain ⟨a0, a1, a2, a3, a4, a5, a6, a7, a8, a9, a10, a11, a12, a13⟩ := h
  refine ⟨?_, ?_, ?_, ?_, ?_, ?_, ?_, ?_, ?_, ?_, ?_, ?_, ?_, ?_⟩
  · simp (disch := omega) only [up_k]; exact a0
  · simp (disch := omega) only [up_k]; exact a1
  · simp (disch := omega) only [up_k]; exact a2
  · simp (disch := omega) only [up_k]; exact a3
  · simp (disch := omega) only [up_k]; exact a4
  · intro k hk
    simp (disch := omega) only [up_k]
    exact a5 k hk
  · simp (disch := omega) only [up_k]; exact a6
  · simp (disch := omega) only [up_k]; exact a7
  · simp (disch := omega) only [up_k]; exact a8
  · rw [up_a]; exact ⟨a, Nat.zero_le _, ha, rfl⟩
  · obtain ⟨c0, h0, h1, h2⟩ := a10
    refine ⟨c0, h0, ?_, fun j hj => ?_⟩
    · simp (disch := omega) only [up_k]; exact h1
    · simp (disch := omega) only [up_k]; exact h2 j hj
  · obtain ⟨c0, h0, h1, h2⟩ := a11
    refine ⟨c0, h0, ?_, fun j hj => ?_⟩
    · simp (disch := omega) only [up_k]; exact h1
    · simp (disch := omega) only [up_k]; exact h2 j hj
  · obtain ⟨c0, h0, h1, h2⟩ := a12
    refine ⟨c0, h0, ?_, fun j hj => ?_⟩
    · simp (disch := omega) only [up_k]; exact h1
    · simp (disch := omega) only [up_k]; exact h2 j hj
  · simp (disch := omega) only [up_k]; exact a13
theorem WV.pair {T : Nat → Int32} {c a b : Nat} (hc : c < 4) (e20 : T 20 = nI c) (ha : 1 ≤ a ∧ a ≤ 99) (hb : b ≤ 999) (h : WV T) : WV (up (up (up T (36 + 2 * c) (nI a)) (37 + 2 * c) (nI b)) 20 (nI (c + 1))) := by
  obtain ⟨a0, a1, a2, a3, a4, a5, a6, a7, a8, a9, a10, a11, a12, a13⟩ := h
  refine ⟨?_, ?_, ?_, ?_, ?_, ?_, ?_, ?_, ?_, ?_, ?_, ?_, ?_, ?_⟩
  · simp (disch := omega) only [up_k]; exact a0
  · simp (disch := omega) only [up_k]; exact a1
  · simp (disch := omega) only [up_k]; exact a2
  · simp (disch := omega) only [up_k]; exact a3
  · simp (disch := omega) only [up_k]; exact a4
  · intro k hk
    simp (disch := omega) only [up_k]
    exact a5 k hk
  · simp (disch := omega) only [up_k]; exact a6
  · simp (disch := omega) only [up_k]; exact a7
  · simp (disch := omega) only [up_k]; exact a8
  · simp (disch := omega) only [up_k]; exact a9
  · obtain ⟨c0, h0, h1, h2⟩ := a10
    refine ⟨c0, h0, ?_, fun j hj => ?_⟩
    · simp (disch := omega) only [up_k]; exact h1
    · simp (disch := omega) only [up_k]; exact h2 j hj
  · refine ⟨c + 1, by omega, up_a, fun j hj => ?_⟩
    obtain ⟨c0, h0, h1, h2⟩ := a11
    have hcc : c0 = c := (nI_eq (by omega) (by omega)).mp (h1.symm.trans e20)
    by_cases hjc : j = c
    · subst hjc
      constructor
      · rw [up_k (by omega), up_k (by omega), up_a]; exact ⟨a, ha.1, ha.2, rfl⟩
      · rw [up_k (by omega), up_a]; exact ⟨b, Nat.zero_le _, hb, rfl⟩
    · have hq := h2 j (by omega)
      constructor
      · rw [up_k (by omega), up_k (by omega), up_k (by omega)]; exact hq.1
      · rw [up_k (by omega), up_k (by omega), up_k (by omega)]; exact hq.2
  · obtain ⟨c0, h0, h1, h2⟩ := a12
    refine ⟨c0, h0, ?_, fun j hj => ?_⟩
    · simp (disch := omega) only [up_k]; exact h1
    · simp (disch := omega) only [up_k]; exact h2 j hj
  · simp (disch := omega) only [up_k]; exact a13
theorem WV.pile {T : Nat → Int32} {c a : Nat} (hc : c < 6) (e21 : T 21 = nI c) (ha : 1 ≤ a ∧ a ≤ 60) (h : WV T) : WV (up (up T (44 + c) (nI a)) 21 (nI (c + 1))) := by
  obtain ⟨a0, a1, a2, a3, a4, a5, a6, a7, a8, a9, a10, a11, a12, a13⟩ := h
  refine ⟨?_, ?_, ?_, ?_, ?_, ?_, ?_, ?_, ?_, ?_, ?_, ?_, ?_, ?_⟩
  · simp (disch := omega) only [up_k]; exact a0
  · simp (disch := omega) only [up_k]; exact a1
  · simp (disch := omega) only [up_k]; exact a2
  · simp (disch := omega) only [up_k]; exact a3
  · simp (disch := omega) only [up_k]; exact a4
  · intro k hk
    simp (disch := omega) only [up_k]
    exact a5 k hk
  · simp (disch := omega) only [up_k]; exact a6
  · simp (disch := omega) only [up_k]; exact a7
  · simp (disch := omega) only [up_k]; exact a8
  · simp (disch := omega) only [up_k]; exact a9
  · obtain ⟨c0, h0, h1, h2⟩ := a10
    refine ⟨c0, h0, ?_, fun j hj => ?_⟩
    · simp (disch := omega) only [up_k]; exact h1
    · simp (disch := omega) only [up_k]; exact h2 j hj
  · obtain ⟨c0, h0, h1, h2⟩ := a11
    refine ⟨c0, h0, ?_, fun j hj => ?_⟩
    · simp (disch := omega) only [up_k]; exact h1
    · simp (disch := omega) only [up_k]; exact h2 j hj
  · refine ⟨c + 1, by omega, up_a, fun j hj => ?_⟩
    obtain ⟨c0, h0, h1, h2⟩ := a12
    have hcc : c0 = c := (nI_eq (by omega) (by omega)).mp (h1.symm.trans e21)
    by_cases hjc : j = c
    · subst hjc
      rw [up_k (by omega), up_a]; exact ⟨a, ha.1, ha.2, rfl⟩
    · rw [up_k (by omega), up_k (by omega)]; exact h2 j (by omega)
  · simp (disch := omega) only [up_k]; exact a13
theorem WV.lend {T : Nat → Int32} {v : Int32} (h : WV T) : WV (up T 22 v) := by
  obtain ⟨a0, a1, a2, a3, a4, a5, a6, a7, a8, a9, a10, a11, a12, a13⟩ := h
  refine ⟨?_, ?_, ?_, ?_, ?_, ?_, ?_, ?_, ?_, ?_, ?_, ?_, ?_, ?_⟩
  · simp (disch := omega) only [up_k]; exact a0
  · simp (disch := omega) only [up_k]; exact a1
  · simp (disch := omega) only [up_k]; exact a2
  · simp (disch := omega) only [up_k]; exact a3
  · simp (disch := omega) only [up_k]; exact a4
  · intro k hk
    simp (disch := omega) only [up_k]
    exact a5 k hk
  · simp (disch := omega) only [up_k]; exact a6
  · simp (disch := omega) only [up_k]; exact a7
  · simp (disch := omega) only [up_k]; exact a8
  · simp (disch := omega) only [up_k]; exact a9
  · obtain ⟨c0, h0, h1, h2⟩ := a10
    refine ⟨c0, h0, ?_, fun j hj => ?_⟩
    · simp (disch := omega) only [up_k]; exact h1
    · simp (disch := omega) only [up_k]; exact h2 j hj
  · obtain ⟨c0, h0, h1, h2⟩ := a11
    refine ⟨c0, h0, ?_, fun j hj => ?_⟩
    · simp (disch := omega) only [up_k]; exact h1
    · simp (disch := omega) only [up_k]; exact h2 j hj
  · obtain ⟨c0, h0, h1, h2⟩ := a12
    refine ⟨c0, h0, ?_, fun j hj => ?_⟩
    · simp (disch := omega) only [up_k]; exact h1
    · simp (disch := omega) only [up_k]; exact h2 j hj
  · simp (disch := omega) only [up_k]; exact a13
section PURE
variable {n : Nat} {B : Nat → Nat}
theorem fnl_ok {T T' : Nat → Int32} {r : Except (Nat × Nat) Nat} {q : Nat} (h : fnl T r = .ok (T', q)) : r = .ok q ∧ T' = T := by
  cases r with
  | ok p => cases h; exact ⟨rfl, rfl⟩
  | error e => cases h
/-- nothing told yet -/
def T00 (T : Nat → Int32) : Prop := ∀ k, k < 110 → T k = 0
theorem first_ok {T T' : Nat → Int32} {p q : Nat} (hT : T00 T) (hp : p ≤ n) (h : pfirst n B T p = .ok (T', q)) : WV T' ∧ T' 22 = 0 ∧ p ≤ q ∧ q ≤ n ∧ ∀ k, k < 6 → T' (5 + k) = 5 := by
  obtain ⟨hq, rfl⟩ := fnl_ok h
  obtain ⟨p4, k4, v4, w4, m4⟩ := pwn_ok (r := er2 (sD n B (.ok p))) hq
  obtain ⟨p3, k3, v3, w3, m3⟩ := pwn_ok (r := er2 (sC n B (.ok p))) k4
  obtain ⟨p2, k2, v2, w2, m2⟩ := pwn_ok (r := er2 (sB n B (.ok p))) k3
  obtain ⟨p1, k1, v1, w1, m1⟩ := pwn_ok (r := er2 (sA n B (.ok p))) k2
  obtain ⟨p0, k0, v0, w0, m0⟩ := pwn_ok (r := ebn (.ok p) (pw n B wLinen)) k1
  have u0 := pw_ok (show pw n B wLinen p = .ok p0 from k0) hp
  have u1 := m0 u0.2
  have u2 := m1 u1.2
  have u3 := m2 u2.2
  have u4 := m3 u3.2
  have u5 := m4 u4.2
  have hz : ∀ j, 11 ≤ j → j < 110 → T6 (up (up (up (up (up T 0 (nI (gv (sA n B (.ok p))))) 1 (nI (gv (sB n B (.ok p))))) 2 (nI (gv (sC n B (.ok p))))) 3 (nI (gv (sD n B (.ok p))))) 4 (nI (gv (sE n B (.ok p))))) 6 j = 0 := by
    intro j h1 h2
    unfold T6
    rw [if_neg (by omega), up_k (by omega), up_k (by omega), up_k (by omega), up_k (by omega), up_k (by omega)]
    exact hT j h2
  have h5 : ∀ k, k < 6 → T6 (up (up (up (up (up T 0 (nI (gv (sA n B (.ok p))))) 1 (nI (gv (sB n B (.ok p))))) 2 (nI (gv (sC n B (.ok p))))) 3 (nI (gv (sD n B (.ok p))))) 4 (nI (gv (sE n B (.ok p))))) 6 (5 + k) = 5 := by
    intro k hk
    unfold T6
    rw [if_pos (by omega)]
  refine ⟨⟨⟨_, v0, w0, ?_⟩, ⟨_, v1, w1, ?_⟩, ⟨_, v2, w2, ?_⟩, ⟨_, v3, w3, ?_⟩, ⟨_, v4, w4, ?_⟩, fun k hk => ⟨5, by omega, by omega, h5 k hk⟩, ⟨0, by omega, by omega, hz 11 (by omega) (by omega)⟩, ⟨0, by omega, by omega, hz 12 (by omega) (by omega)⟩, Or.inl (hz 13 (by omega) (by omega)), ⟨0, by omega, by omega, hz 18 (by omega) (by omega)⟩, ⟨0, by omega, hz 19 (by omega) (by omega), fun j hj => absurd hj (by omega)⟩, ⟨0, by omega, hz 20 (by omega) (by omega), fun j hj => absurd hj (by omega)⟩, ⟨0, by omega, hz 21 (by omega) (by omega), fun j hj => absurd hj (by omega)⟩, hz 23 (by omega) (by omega)⟩, hz 22 (by omega) (by omega), by omega, u5.2, h5⟩
  · unfold T6; rw [if_neg (by omega)]; simp (disch := omega) only [up_k, up_a]; rfl
  · unfold T6; rw [if_neg (by omega)]; simp (disch := omega) only [up_k, up_a]; rfl
  · unfold T6; rw [if_neg (by omega)]; simp (disch := omega) only [up_k, up_a]; rfl
  · unfold T6; rw [if_neg (by omega)]; simp (disch := omega) only [up_k, up_a]; rfl
  · unfold T6; rw [if_neg (by omega)]; simp (disch := omega) only [up_k, up_a]; rfl
theorem next_ok {T T' : Nat → Int32} {p q : Nat} (hT : WV T) (hp : p ≤ n) (h : pnext n B T p = .ok (T', q)) : WV T' ∧ T' 22 = T 22 ∧ p ≤ q ∧ q ≤ n := by
  have ht := ten_le (B := B) hp
  unfold pnext at h
  split at h
  · rename_i i hi
    obtain ⟨hq, rfl⟩ := fnl_ok h
    obtain ⟨p1, k1, v1, w1, m1⟩ := pwn_ok hq
    cases k1
    have u := m1 ht.2.2
    have hi6 := mov_lt hi
    exact ⟨hT.takes hi6 v1 w1, up_k (by omega), by omega, u.2⟩
  · split at h
    · split at h
      · cases h
      · rename_i hc
        obtain ⟨hq, rfl⟩ := fnl_ok h
        obtain ⟨p2, p3, k2, a2, m2⟩ := pwc_ok hq
        obtain ⟨p0, p1, k1, a1, m1⟩ := pwc_ok k2
        cases k1
        have u1 := m1 ht.2.2
        have u2 := m2 u1.2
        have l1 := act_lt a1
        have l2 := act_lt a2
        have hT' := hT
        obtain ⟨-, -, -, -, -, -, -, -, -, -, ⟨c, h0, h1, h2⟩, -⟩ := hT'
        have hc6 : c < 6 := by
          rcases Nat.lt_or_ge c 6 with hh | hh
          · exact hh
          · exact absurd (by rw [h1, show c = 6 by omega]; rfl) hc
        have ec : (T 19).toNatClampNeg = c := by rw [h1, nI_clamp (by omega)]
        rw [ec]
        exact ⟨hT.call hc6 h1 (by omega) (by omega), by simp (disch := omega) only [up_k], by omega, u2.2⟩
    · obtain ⟨hq, rfl⟩ := fnl_ok h
      obtain ⟨p2, k2, v2, w2, m2⟩ := pwn_ok hq
      obtain ⟨p1, k1, v1, w1, m1⟩ := pwn_ok k2
      cases k1
      have u1 := m1 ht.2.2
      have u2 := m2 u1.2
      exact ⟨hT.slips w1 w2, by simp (disch := omega) only [up_k], by omega, u2.2⟩
    · obtain ⟨hq, rfl⟩ := fnl_ok h
      obtain ⟨p4, k4, x4⟩ := ebn_ok (er2_ok hq)
      obtain ⟨a4, m4⟩ := pch_ok x4
      obtain ⟨p3, k3, x3⟩ := ebn_ok (er2_ok k4)
      obtain ⟨a3, m3⟩ := pch_ok x3
      obtain ⟨p2, k2, v2, w2, m2⟩ := pwn_ok k3
      obtain ⟨p1, k1, v1, w1, m1⟩ := pwn_ok k2
      cases k1
      have u1 := m1 ht.2.2
      have u2 := m2 u1.2
      have u3 := m3 u2.2
      have u4 := m4 u3.2
      have l3 := fac_lt a3
      have l4 := hem_lt a4
      exact ⟨hT.wish ⟨v1, w1⟩ ⟨v2, w2⟩ (by omega) (by omega), by simp (disch := omega) only [up_k], by omega, u4.2⟩
    · obtain ⟨hq, rfl⟩ := fnl_ok h
      obtain ⟨v1, w1, m1⟩ := pn_ok (er2_ok hq)
      have u1 := m1 ht.2.2
      exact ⟨hT.press w1, by simp (disch := omega) only [up_k], by omega, u1.2⟩
    · split at h
      · cases h
      · rename_i hc
        obtain ⟨hq, rfl⟩ := fnl_ok h
        obtain ⟨p2, k2, v2, w2, m2⟩ := pwn_ok hq
        obtain ⟨v1, w1, m1⟩ := pn_ok (er2_ok k2)
        have u1 := m1 ht.2.2
        have u2 := m2 u1.2
        have hT' := hT
        obtain ⟨-, -, -, -, -, -, -, -, -, -, -, ⟨c, h0, h1, h2⟩, -⟩ := hT'
        have hc4 : c < 4 := by
          rcases Nat.lt_or_ge c 4 with hh | hh
          · exact hh
          · exact absurd (by rw [h1, show c = 4 by omega]; rfl) hc
        have ec : (T 20).toNatClampNeg = c := by rw [h1, nI_clamp (by omega)]
        rw [ec]
        exact ⟨hT.pair hc4 h1 ⟨v1, w1⟩ w2, by simp (disch := omega) only [up_k], by omega, u2.2⟩
    · split at h
      · cases h
      · rename_i hc
        obtain ⟨hq, rfl⟩ := fnl_ok h
        obtain ⟨v1, w1, m1⟩ := pn_ok (er2_ok hq)
        have u1 := m1 ht.2.2
        have hT' := hT
        obtain ⟨-, -, -, -, -, -, -, -, -, -, -, -, ⟨c, h0, h1, h2⟩, -⟩ := hT'
        have hc6 : c < 6 := by
          rcases Nat.lt_or_ge c 6 with hh | hh
          · exact hh
          · exact absurd (by rw [h1, show c = 6 by omega]; rfl) hc
        have ec : (T 21).toNatClampNeg = c := by rw [h1, nI_clamp (by omega)]
        rw [ec]
        exact ⟨hT.pile hc6 h1 ⟨v1, w1⟩, by simp (disch := omega) only [up_k], by omega, u1.2⟩
    · cases h
variable (n B)
def pend (x : Except (Nat × Nat) ((Nat → Int32) × Nat)) : Except (Nat × Nat) ((Nat → Int32) × Nat) := match x with
  | .ok a => if tkd n B a.2 = 3 then .ok (up a.1 22 (a.1 22 + 1), ten n B a.2) else .error (1, tst n B a.2)
  | .error e => .error e
def pline (i : Nat) (T : Nat → Int32) (p : Nat) : Except (Nat × Nat) ((Nat → Int32) × Nat) := pend n B (if i = 0 then pfirst n B T p else pnext n B T p)
def ploop : Nat → Nat → (Nat → Int32) → Nat → Except (Nat × Nat) ((Nat → Int32) × Nat)
  | 0, _, T, p => .ok (T, p)
  | m + 1, i, T, p => if tkd n B p = 0 then .ok (T, p) else match pline n B i T p with
    | .ok a => ploop m (i + 1) a.1 a.2
    | .error e => .error e
variable {n B}
/-- what is told behind i lines -/
def WI (i : Nat) (T : Nat → Int32) : Prop := T 22 = nI i ∧ (i = 0 → T00 T) ∧ (¬ i = 0 → WV T)
theorem line_ok {i p q : Nat} {T T' : Nat → Int32} (hT : WI i T) (hi : i < 1000) (hp : p ≤ n) (h : pline n B i T p = .ok (T', q)) : WI (i + 1) T' ∧ p < q ∧ q ≤ n := by
  unfold pline at h
  cases hx : (if i = 0 then pfirst n B T p else pnext n B T p) with
  | error e => rw [hx] at h; cases h
  | ok a =>
    rw [hx] at h
    simp only [pend] at h
    split at h
    · rename_i hk
      cases h
      have key : WV a.1 ∧ a.1 22 = nI i ∧ p ≤ a.2 ∧ a.2 ≤ n := by
        by_cases h0 : i = 0
        · rw [if_pos h0] at hx
          obtain ⟨k1, k2, k3, k4, k5⟩ := first_ok (T' := a.1) (q := a.2) (hT.2.1 h0) hp hx
          exact ⟨k1, by rw [k2, h0]; rfl, k3, k4⟩
        · rw [if_neg h0] at hx
          obtain ⟨k1, k2, k3, k4⟩ := next_ok (T' := a.1) (q := a.2) (hT.2.2 h0) hp hx
          exact ⟨k1, by rw [k2]; exact hT.1, k3, k4⟩
      obtain ⟨k1, k2, k3, k4⟩ := key
      have u := ten_lt (B := B) k4 (by rw [hk]; decide)
      have u2 := ten_le (B := B) k4
      refine ⟨⟨by rw [up_a, k2, nI_1], fun e => absurd e (by omega), fun _ => k1.lend⟩, by omega, u2.2.2⟩
    · cases h
end PURE
