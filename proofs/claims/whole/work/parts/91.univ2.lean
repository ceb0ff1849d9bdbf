/-! How many states a search can find. -/
/-- as many as there are places for -/
theorem pigeon : ∀ (M N : Nat) (f : Nat → Nat), (∀ i, i < N → f i < M) → (∀ i j, i < N → j < N → f i = f j → i = j) → N ≤ M := by
  intro M
  induction M with
  | zero =>
    intro N f h1 h2
    rcases Nat.eq_zero_or_pos N with h | h
    · omega
    · exact absurd (h1 0 h) (Nat.not_lt_zero _)
  | succ M ih =>
    intro N f h1 h2
    rcases Nat.eq_zero_or_pos N with h | h
    · omega
    · have key : N - 1 ≤ M := by
        apply ih (N - 1) (fun i => if f i = M then f (N - 1) else f i)
        · intro i hi
          show (if f i = M then f (N - 1) else f i) < M
          split
          · rename_i hM
            have a := h1 (N - 1) (by omega)
            have b : f (N - 1) ≠ M := fun e => by
              have := h2 i (N - 1) (by omega) (by omega) (hM.trans e.symm)
              omega
            omega
          · have a := h1 i (by omega)
            omega
        · intro i j hi hj hij
          have hij : (if f i = M then f (N - 1) else f i) = (if f j = M then f (N - 1) else f j) := hij
          split at hij
          · rename_i hM
            split at hij
            · rename_i hM'
              exact h2 i j (by omega) (by omega) (hM.trans hM'.symm)
            · have := h2 (N - 1) j (by omega) (by omega) hij
              omega
          · split at hij
            · have := h2 i (N - 1) (by omega) (by omega) hij
              omega
            · exact h2 i j (by omega) (by omega) hij
      omega
theorem pigeon_l {α : Type} [DecidableEq α] {N : Nat} {Q : Nat → α} {l : List α} (h1 : ∀ i, i < N → Q i ∈ l) (h2 : ∀ i j, i < N → j < N → Q i = Q j → i = j) : N ≤ l.length := by
  apply pigeon l.length N (fun i => l.idxOf (Q i))
  · intro i hi
    exact List.idxOf_lt_length_of_mem (h1 i hi)
  · intro i j hi hj hij
    apply h2 i j hi hj
    have a := List.getElem_idxOf (List.idxOf_lt_length_of_mem (h1 i hi))
    have b := List.getElem_idxOf (List.idxOf_lt_length_of_mem (h1 j hj))
    rw [← a, ← b]
    simp only [hij]
/-- one search: what is twisted stands as at first -/
def uV (A B : Nat) (s0 s : St) : Prop := st_K s ∧ uS A B s ∧ (s.2.2.2.2 = 2 ∨ (s.1 = s0.1 ∧ s.2.1 = s0.2.1 ∧ s.2.2.1 = s0.2.2.1 ∧ s.2.2.2.1 = s0.2.2.2.1 ∧ (s0.2.2.2.2 ≤ s.2.2.2.2 ∧ s.2.2.2.2 < 2 ∨ 2 < s.2.2.2.2 ∧ s.2.2.2.2 ≤ s0.2.2.2.2)))
theorem uV_0 {A B : Nat} {s0 : St} (hK : st_K s0) (h : uS A B s0) : uV A B s0 s0 := by
  refine ⟨hK, h, ?_⟩
  have := hK.2.2.2.2
  omega
theorem uV_len {A B N : Nat} {s0 : St} {Q : Nat → St} (hA : A < 49) (hB : B < 49) (hK : st_K s0) (h1 : ∀ i, i < N → uV A B s0 (Q i)) (h2 : ∀ i j, i < N → j < N → Q i = Q j → i = j) : N ≤ 640 := by
  have hul := ul_len A hA B hB
  apply pigeon 640 N (fun i => if (Q i).2.2.2.2 = 2 then (ul A B).idxOf (Q i) else if (Q i).2.2.2.2 < 2 then 638 + (Q i).2.2.2.2 else 642 - (Q i).2.2.2.2)
  · intro i hi
    obtain ⟨k1, k2, k3⟩ := h1 i hi
    show (if (Q i).2.2.2.2 = 2 then (ul A B).idxOf (Q i) else if (Q i).2.2.2.2 < 2 then 638 + (Q i).2.2.2.2 else 642 - (Q i).2.2.2.2) < 640
    split
    · rename_i hz
      have := List.idxOf_lt_length_of_mem (mem_ul k1 hz k2)
      omega
    · have := k1.2.2.2.2
      split <;> omega
  · intro i j hi hj hij
    apply h2 i j hi hj
    obtain ⟨k1, k2, k3⟩ := h1 i hi
    obtain ⟨m1, m2, m3⟩ := h1 j hj
    have hij : (if (Q i).2.2.2.2 = 2 then (ul A B).idxOf (Q i) else if (Q i).2.2.2.2 < 2 then 638 + (Q i).2.2.2.2 else 642 - (Q i).2.2.2.2) = (if (Q j).2.2.2.2 = 2 then (ul A B).idxOf (Q j) else if (Q j).2.2.2.2 < 2 then 638 + (Q j).2.2.2.2 else 642 - (Q j).2.2.2.2) := hij
    have kz := k1.2.2.2.2
    have mz := m1.2.2.2.2
    by_cases zi : (Q i).2.2.2.2 = 2
    · have ia := List.idxOf_lt_length_of_mem (mem_ul k1 zi k2)
      rw [if_pos zi] at hij
      by_cases zj : (Q j).2.2.2.2 = 2
      · have ja := List.idxOf_lt_length_of_mem (mem_ul m1 zj m2)
        rw [if_pos zj] at hij
        have a := List.getElem_idxOf ia
        have b := List.getElem_idxOf ja
        rw [← a, ← b]
        simp only [hij]
      · rw [if_neg zj] at hij
        split at hij <;> omega
    · rw [if_neg zi] at hij
      by_cases zj : (Q j).2.2.2.2 = 2
      · have ja := List.idxOf_lt_length_of_mem (mem_ul m1 zj m2)
        rw [if_pos zj] at hij
        split at hij <;> omega
      · rw [if_neg zj] at hij
        rcases k3 with k3 | ⟨a1, a2, a3, a4, a5⟩
        · exact absurd k3 zi
        rcases m3 with m3 | ⟨b1, b2, b3, b4, b5⟩
        · exact absurd m3 zj
        have hz : (Q i).2.2.2.2 = (Q j).2.2.2.2 := by
          split at hij <;> split at hij <;> omega
        exact Prod.ext (a1.trans b1.symm) (Prod.ext (a2.trans b2.symm) (Prod.ext (a3.trans b3.symm) (Prod.ext (a4.trans b4.symm) hz)))
theorem uV_do {A B room k : Nat} {s0 s s' : St} (hA : A < 49) (hB : B < 49) (h : uV A B s0 s) (hk : k ≤ 9) (hd : st_do room k s = some s') : uV A B s0 s' := by
  obtain ⟨h1, h2, h3⟩ := h
  refine ⟨st_do_K h1 hd (by omega), uS_do hA hB h1 h2 (by omega) hd, ?_⟩
  by_cases k9 : k = 9
  · subst k9
    unfold st_do at hd
    rw [if_neg (by decide), if_pos rfl] at hd
    split at hd
    · cases hd
    · rename_i hz
      cases hd
      rcases h3 with h3 | ⟨a1, a2, a3, a4, a5⟩
      · exact absurd h3 hz
      · simp only
        by_cases h2 : 2 < s.2.2.2.2
        · rw [if_pos h2]
          by_cases h4 : s.2.2.2.2 - 1 = 2
          · exact Or.inl h4
          · exact Or.inr ⟨a1, a2, a3, a4, by omega⟩
        · rw [if_neg h2]
          by_cases h4 : s.2.2.2.2 + 1 = 2
          · exact Or.inl h4
          · exact Or.inr ⟨a1, a2, a3, a4, by omega⟩
  · left
    unfold st_do at hd
    rw [if_neg (by omega), if_neg k9] at hd
    by_cases k8 : k = 8
    · rw [if_pos k8] at hd
      split at hd
      · cases hd; rfl
      · cases hd
    · rw [if_neg k8, if_neg (by omega), if_neg (by omega)] at hd
      split at hd
      · repeat' split at hd
        all_goals first | cases hd | skip
        all_goals rfl
      · cases hd
