/-! A search by breadth: what it has found, and in which order. -/
def fu {α : Type} (f : Nat → α) (k : Nat) (v : α) : Nat → α := fun j => if j = k then v else f j
theorem fu_a {α : Type} {f : Nat → α} {k : Nat} {v : α} : fu f k v k = v := if_pos rfl
theorem fu_k {α : Type} {f : Nat → α} {k j : Nat} {v : α} (h : j ≠ k) : fu f k v j = f j := if_neg h
def lx (a b c e : Nat) : Prop := a < c ∨ a = c ∧ b < e
def PB (nx : Nat → St → Option St) (s0 : St) (i k N : Nat) (Q : Nat → St) (par mv dep : Nat → Nat) : Prop :=
  1 ≤ N ∧ Q 0 = s0 ∧ dep 0 = 0 ∧ (∀ a b, a < N → b < N → Q a = Q b → a = b) ∧
  (∀ j, 1 ≤ j → j < N → par j < j ∧ mv j < 10 ∧ nx (mv j) (Q (par j)) = some (Q j) ∧ dep j = dep (par j) + 1) ∧
  (∀ x y, 1 ≤ x → x < y → y < N → lx (par x) (mv x) (par y) (mv y)) ∧
  (∀ a b t, a < N → b < 10 → lx a b i k → nx b (Q a) = some t → ∃ j, j < N ∧ Q j = t ∧ (j = 0 ∨ par j < a ∨ par j = a ∧ mv j ≤ b)) ∧
  (∀ j, 1 ≤ j → j < N → lx (par j) (mv j) i k)
section PURE
variable {nx : Nat → St → Option St} {s0 : St} {i k N : Nat} {Q : Nat → St} {par mv dep : Nat → Nat}
theorem lx_s {a b : Nat} (h : lx a b i (k + 1)) : lx a b i k ∨ (a = i ∧ b = k) := by unfold lx at *; omega
theorem lx_w {a b : Nat} (h : lx a b i k) : lx a b i (k + 1) := by unfold lx at *; omega
theorem PB.start : PB nx s0 0 0 1 (fun _ => s0) par mv (fun _ => 0) := by
  refine ⟨Nat.le_refl _, rfl, rfl, fun a b ha hb _ => by omega, fun j h1 h2 => by omega, fun x y h1 h2 h3 => by omega, fun a b t ha hb hl => ?_, fun j h1 h2 => by omega⟩
  unfold lx at hl
  omega
theorem PB.skip (h : PB nx s0 i k N Q par mv dep) (hn : nx k (Q i) = none) : PB nx s0 i (k + 1) N Q par mv dep := by
  obtain ⟨h1, h2, h3, h4, h5, h6, h7, h8⟩ := h
  refine ⟨h1, h2, h3, h4, h5, h6, fun a b t ha hb hl ht => ?_, fun j a b => lx_w (h8 j a b)⟩
  rcases lx_s hl with hl | ⟨rfl, rfl⟩
  · exact h7 a b t ha hb hl ht
  · rw [hn] at ht; cases ht
theorem PB.seen (h : PB nx s0 i k N Q par mv dep) {t : St} {j : Nat} (hn : nx k (Q i) = some t) (hj : j < N) (hq : Q j = t) : PB nx s0 i (k + 1) N Q par mv dep := by
  obtain ⟨h1, h2, h3, h4, h5, h6, h7, h8⟩ := h
  refine ⟨h1, h2, h3, h4, h5, h6, fun a b t' ha hb hl ht => ?_, fun j a b => lx_w (h8 j a b)⟩
  rcases lx_s hl with hl | ⟨rfl, rfl⟩
  · exact h7 a b t' ha hb hl ht
  · rw [hn] at ht
    cases ht
    refine ⟨j, hj, hq, ?_⟩
    by_cases h0 : j = 0
    · exact Or.inl h0
    · have := h8 j (by omega) hj
      unfold lx at this
      omega
theorem PB.add (h : PB nx s0 i k N Q par mv dep) {t : St} (hn : nx k (Q i) = some t) (hi : i < N) (hk : k < 10) (hq : ∀ j, j < N → Q j ≠ t) : PB nx s0 i (k + 1) (N + 1) (fu Q N t) (fu par N i) (fu mv N k) (fu dep N (dep i + 1)) := by
  obtain ⟨h1, h2, h3, h4, h5, h6, h7, h8⟩ := h
  refine ⟨by omega, by rw [fu_k (by omega)]; exact h2, by rw [fu_k (by omega)]; exact h3, fun a b ha hb hab => ?_, fun j hj hjN => ?_, fun x y hx hxy hy => ?_, fun a b t' ha hb hl ht => ?_, fun j hj hjN => ?_⟩
  · by_cases aN : a = N
    · by_cases bN : b = N
      · omega
      · rw [aN, fu_a, fu_k bN] at hab
        exact absurd hab.symm (hq b (by omega))
    · by_cases bN : b = N
      · rw [bN, fu_a, fu_k aN] at hab
        exact absurd hab (hq a (by omega))
      · rw [fu_k aN, fu_k bN] at hab
        exact h4 a b (by omega) (by omega) hab
  · by_cases jN : j = N
    · subst jN
      rw [fu_a, fu_a, fu_a, fu_a, fu_k (by omega), fu_k (by omega)]
      exact ⟨hi, hk, hn, rfl⟩
    · have q := h5 j hj (by omega)
      rw [fu_k jN, fu_k jN, fu_k jN, fu_k jN, fu_k (by omega), fu_k (by omega)]
      exact q
  · by_cases yN : y = N
    · rw [yN, fu_a, fu_a, fu_k (by omega), fu_k (by omega)]
      exact h8 x hx (by omega)
    · rw [fu_k (by omega), fu_k (by omega), fu_k yN, fu_k yN]
      exact h6 x y hx hxy (by omega)
  · by_cases aN : a = N
    · unfold lx at hl
      omega
    · rw [fu_k aN] at ht
      rcases lx_s hl with hl | ⟨rfl, rfl⟩
      · obtain ⟨j, q1, q2, q3⟩ := h7 a b t' (by omega) hb hl ht
        refine ⟨j, by omega, by rw [fu_k (by omega)]; exact q2, ?_⟩
        rw [fu_k (by omega), fu_k (by omega)]
        exact q3
      · rw [hn] at ht
        cases ht
        refine ⟨N, by omega, fu_a, ?_⟩
        rw [fu_a, fu_a]
        exact Or.inr (Or.inr ⟨rfl, Nat.le_refl _⟩)
  · by_cases jN : j = N
    · rw [jN, fu_a, fu_a]
      exact Or.inr ⟨rfl, by omega⟩
    · rw [fu_k jN, fu_k jN]
      exact lx_w (h8 j hj (by omega))
theorem PB.next (h : PB nx s0 i 10 N Q par mv dep) : PB nx s0 (i + 1) 0 N Q par mv dep := by
  obtain ⟨h1, h2, h3, h4, h5, h6, h7, h8⟩ := h
  refine ⟨h1, h2, h3, h4, h5, h6, fun a b t ha hb hl ht => h7 a b t ha hb ?_ ht, fun j a b => ?_⟩
  · unfold lx at *; omega
  · have := h8 j a b
    unfold lx at *; omega
/-- all is found -/
def BF (nx : Nat → St → Option St) (s0 : St) (N : Nat) (Q : Nat → St) (par mv dep : Nat → Nat) : Prop := PB nx s0 N 0 N Q par mv dep
theorem BF.edge (h : BF nx s0 N Q par mv dep) {a b : Nat} {t : St} (ha : a < N) (hb : b < 10) (ht : nx b (Q a) = some t) : ∃ j, j < N ∧ Q j = t ∧ (j = 0 ∨ par j < a ∨ par j = a ∧ mv j ≤ b) := h.2.2.2.2.2.2.1 a b t ha hb (Or.inl ha) ht
theorem BF.pr (h : BF nx s0 N Q par mv dep) {j : Nat} (h1 : 1 ≤ j) (h2 : j < N) : par j < j ∧ mv j < 10 ∧ nx (mv j) (Q (par j)) = some (Q j) ∧ dep j = dep (par j) + 1 := h.2.2.2.2.1 j h1 h2
theorem BF.mono (h : BF nx s0 N Q par mv dep) : ∀ y x, x ≤ y → y < N → dep x ≤ dep y := by
  intro y
  induction y using Nat.strongRecOn with
  | _ y ih =>
    intro x hxy hy
    by_cases h0 : x = 0
    · rw [h0, h.2.2.1]; exact Nat.zero_le _
    · by_cases hxe : x = y
      · rw [hxe]; exact Nat.le_refl _
      · have px := h.pr (j := x) (by omega) (by omega)
        have py := h.pr (j := y) (by omega) hy
        have l := h.2.2.2.2.2.1 x y (by omega) (by omega) hy
        have hp : par x ≤ par y := by unfold lx at l; omega
        have := ih (par y) py.1 (par x) hp (by omega)
        omega
theorem BF.dedge (h : BF nx s0 N Q par mv dep) {a b j : Nat} (ha : a < N) (hb : b < 10) (hj : j < N) (ht : nx b (Q a) = some (Q j)) : dep j ≤ dep a + 1 := by
  obtain ⟨j', q1, q2, q3⟩ := h.edge ha hb ht
  have := h.2.2.2.1 j' j q1 hj q2
  subst this
  by_cases h0 : j' = 0
  · rw [h0, h.2.2.1]; exact Nat.zero_le _
  · have p := h.pr (j := j') (by omega) hj
    have hp : par j' ≤ a := by omega
    have := h.mono a (par j') hp ha
    omega
/-- what holds of the first and goes on holds of all -/
theorem BF.ind (h : BF nx s0 N Q par mv dep) (P : St → Prop) (h0 : P s0) (hs : ∀ s t b, b < 10 → P s → nx b s = some t → P t) : ∀ j, j < N → P (Q j) := by
  intro j
  induction j using Nat.strongRecOn with
  | _ j ih =>
    intro hj
    by_cases z : j = 0
    · rw [z, h.2.1]; exact h0
    · have p := h.pr (j := j) (by omega) hj
      exact hs _ _ (mv j) p.2.1 (ih (par j) p.1 (by omega)) p.2.2.1
end PURE
