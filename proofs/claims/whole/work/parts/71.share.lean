/-! Who folds which pile: what is counted, without heaps. -/
/-- seconds for the first n sheets -/
def lsN (a b : Nat) : Nat → Nat
  | 0 => 0
  | k + 1 => lsN a b k + (a + b / (k + 1))
theorem lsN_lsm {a b : Nat} (ha : a ≤ 99) (hb : b ≤ 999) : ∀ n, n ≤ 1000 → lsm (nI a) (nI b) n = nI (lsN a b n) ∧ lsN a b n ≤ n * 1098
  | 0, _ => ⟨rfl, Nat.le_refl _⟩
  | n + 1, hn => by
    obtain ⟨e, h⟩ := lsN_lsm ha hb n (by omega)
    have hq : b / (n + 1) ≤ b := Nat.div_le_self _ _
    refine ⟨?_, ?_⟩
    · show lsm (nI a) (nI b) n + (nI a + nI b / nI (n + 1)) = nI (lsN a b n + (a + b / (n + 1)))
      rw [e, nm_div (by omega) (by omega), nI_add, nI_add]
    · show lsN a b n + (a + b / (n + 1)) ≤ (n + 1) * 1098
      omega
theorem lsN_mono (a b m : Nat) : ∀ k, lsN a b m ≤ lsN a b (m + k)
  | 0 => Nat.le_refl _
  | k + 1 => Nat.le_trans (lsN_mono a b m k) (Nat.le_add_right _ _)
/-- one place set -/
def sg (g : Nat → Nat) (k p : Nat) : Nat → Nat := fun j => if j = k then p else g j
theorem sg_a (g : Nat → Nat) (k p : Nat) : sg g k p k = p := if_pos rfl
theorem sg_n (g : Nat → Nat) {k p j : Nat} (h : j ≠ k) : sg g k p j = g j := if_neg h
theorem sg_id {g : Nat → Nat} {k p : Nat} (h : g k = p) : sg g k p = g := by
  funext j
  unfold sg
  split
  · rename_i q
    rw [q, h]
  · rfl
theorem sg_sg (g : Nat → Nat) (k p q : Nat) : sg (sg g k p) k q = sg g k q := by
  funext j
  unfold sg
  split <;> rfl
/-- what a pair has to fold of the first k piles -/
def ldN (w g : Nat → Nat) (p : Nat) : Nat → Nat
  | 0 => 0
  | k + 1 => ldN w g p k + (if g k = p then w k else 0)
theorem ldN_sg {w g : Nat → Nat} {p k q : Nat} : ∀ i, i ≤ k → ldN w (sg g k q) p i = ldN w g p i
  | 0, _ => rfl
  | i + 1, h => by
    show ldN w (sg g k q) p i + (if sg g k q i = p then w i else 0) = ldN w g p i + (if g i = p then w i else 0)
    rw [ldN_sg i (by omega), sg_n g (by omega)]
theorem ldN_mono {w g : Nat → Nat} {p : Nat} (i : Nat) : ∀ k, ldN w g p i ≤ ldN w g p (i + k)
  | 0 => Nat.le_refl _
  | k + 1 => Nat.le_trans (ldN_mono i k) (Nat.le_add_right _ _)
theorem ldN_le {w g : Nat → Nat} {p : Nat} (hw : ∀ k, w k ≤ 60) : ∀ k, ldN w g p k ≤ 60 * k
  | 0 => Nat.le_refl _
  | k + 1 => by
    have := ldN_le (g := g) (p := p) hw k
    have := hw k
    show ldN w g p k + (if g k = p then w k else 0) ≤ 60 * (k + 1)
    split <;> omega
/-- the longest of the first n pairs, after k piles -/
def mxN (T : Nat → Nat → Nat) (w g : Nat → Nat) (k : Nat) : Nat → Nat
  | 0 => 0
  | p + 1 => max (mxN T w g k p) (T p (ldN w g p k))
/-- a loop -/
def lpF {α : Type} (f : Nat → α → α) : Nat → Nat → α → α
  | 0, _, x => x
  | k + 1, p, x => lpF f k (p + 1) (f p x)
section SHARE
variable {T : Nat → Nat → Nat} {w : Nat → Nat} {n K : Nat}
theorem mxN_ge {g : Nat → Nat} {k : Nat} : ∀ {m p}, p < m → T p (ldN w g p k) ≤ mxN T w g k m
  | 0, p, h => absurd h (by omega)
  | m + 1, p, h => by
    by_cases q : p = m
    · subst q
      exact Nat.le_max_right _ _
    · exact Nat.le_trans (mxN_ge (m := m) (by omega)) (Nat.le_max_left _ _)
theorem mxN_le {g : Nat → Nat} {k B : Nat} : ∀ {m}, (∀ p, p < m → T p (ldN w g p k) ≤ B) → mxN T w g k m ≤ B
  | 0, _ => Nat.zero_le _
  | m + 1, h => Nat.max_le.mpr ⟨mxN_le (fun p hp => h p (by omega)), h m (by omega)⟩
theorem mxN_mono (hT : ∀ p i j, i ≤ j → T p i ≤ T p j) {g : Nat → Nat} {k : Nat} (j m : Nat) : mxN T w g k m ≤ mxN T w g (k + j) m :=
  mxN_le (fun p hp => Nat.le_trans (hT p _ _ (ldN_mono k j)) (mxN_ge hp))
theorem mxN_sg {g : Nat → Nat} {k q m i : Nat} (h : i ≤ k) : mxN T w (sg g k q) i m = mxN T w g i m := by
  induction m with
  | zero => rfl
  | succ m ih =>
    show max (mxN T w (sg g k q) i m) (T m (ldN w (sg g k q) m i)) = max (mxN T w g i m) (T m (ldN w g m i))
    rw [ih, ldN_sg i h]
/-- the longest, when pair q gets pile k -/
theorem mxN_step (hT : ∀ p i j, i ≤ j → T p i ≤ T p j) {g : Nat → Nat} {k q : Nat} (hq : q < n) : mxN T w (sg g k q) (k + 1) n = max (mxN T w g k n) (T q (ldN w g q k + w k)) := by
  have e1 : ldN w (sg g k q) q (k + 1) = ldN w g q k + w k := by
    show ldN w (sg g k q) q k + (if sg g k q k = q then w k else 0) = _
    rw [ldN_sg k (Nat.le_refl _), sg_a, if_pos rfl]
  have e2 : ∀ p, p ≠ q → ldN w (sg g k q) p (k + 1) = ldN w g p k := fun p hp => by
    show ldN w (sg g k q) p k + (if sg g k q k = p then w k else 0) = _
    rw [ldN_sg k (Nat.le_refl _), sg_a, if_neg (Ne.symm hp)]
    rfl
  apply Nat.le_antisymm
  · apply mxN_le
    intro p hp
    by_cases hpq : p = q
    · subst hpq
      rw [e1]
      exact Nat.le_max_right _ _
    · rw [e2 p hpq]
      exact Nat.le_trans (mxN_ge hp) (Nat.le_max_left _ _)
  · apply Nat.max_le.mpr
    constructor
    · apply mxN_le
      intro p hp
      by_cases hpq : p = q
      · subst hpq
        refine Nat.le_trans (hT p _ (ldN w g p k + w k) (by omega)) ?_
        rw [← e1]
        exact mxN_ge hp
      · rw [← e2 p hpq]
        exact mxN_ge hp
    · rw [← e1]
      exact mxN_ge hq
/-- what is sooner strikes -/
def upS (T : Nat → Nat → Nat) (w : Nat → Nat) (n K : Nat) (x : Nat × (Nat → Nat)) (g : Nat → Nat) : Nat × (Nat → Nat) := if mxN T w g K n < x.1 then (mxN T w g K n, g) else x
/-- all ways, d piles left -/
def alS (T : Nat → Nat → Nat) (w : Nat → Nat) (n K : Nat) : Nat → (Nat → Nat) → Nat × (Nat → Nat) → Nat × (Nat → Nat)
  | 0, g, x => upS T w n K x g
  | d + 1, g, x => lpF (fun p y => alS T w n K d (sg g (K - (d + 1)) p) y) n 0 x
/-- the class's ways: what can't be sooner is left out -/
def shS (T : Nat → Nat → Nat) (w : Nat → Nat) (n K : Nat) : Nat → (Nat → Nat) → Nat × (Nat → Nat) → Nat × (Nat → Nat)
  | 0, g, _ => (mxN T w g K n, g)
  | d + 1, g, x => lpF (fun p y => if mxN T w (sg g (K - (d + 1)) p) (K - d) n < y.1 then shS T w n K d (sg g (K - (d + 1)) p) y else y) n 0 x
theorem alS_skip (hT : ∀ p i j, i ≤ j → T p i ≤ T p j) : ∀ d g x, d ≤ K → x.1 ≤ mxN T w g (K - d) n → alS T w n K d g x = x
  | 0, g, x, _, h => by
    show upS T w n K x g = x
    unfold upS
    rw [if_neg (by rw [Nat.sub_zero] at h; omega)]
  | d + 1, g, x, hd, h => by
    show lpF (fun p y => alS T w n K d (sg g (K - (d + 1)) p) y) n 0 x = x
    have lp : ∀ k p, lpF (fun p y => alS T w n K d (sg g (K - (d + 1)) p) y) k p x = x := by
      intro k
      induction k with
      | zero => intro p; rfl
      | succ k ih =>
        intro p
        show lpF (fun p y => alS T w n K d (sg g (K - (d + 1)) p) y) k (p + 1) (alS T w n K d (sg g (K - (d + 1)) p) x) = x
        have e : alS T w n K d (sg g (K - (d + 1)) p) x = x := by
          apply alS_skip hT d _ x (by omega)
          have h1 := mxN_mono (w := w) hT (g := sg g (K - (d + 1)) p) (k := K - (d + 1)) 1 n
          rw [show K - (d + 1) + 1 = K - d by omega, mxN_sg (Nat.le_refl _)] at h1
          omega
        rw [e]
        exact ih (p + 1)
    exact lp n 0
theorem shS_alS (hT : ∀ p i j, i ≤ j → T p i ≤ T p j) : ∀ d g x, d ≤ K → mxN T w g (K - d) n < x.1 → shS T w n K d g x = alS T w n K d g x
  | 0, g, x, _, h => by
    show (mxN T w g K n, g) = upS T w n K x g
    unfold upS
    rw [if_pos (by rw [Nat.sub_zero] at h; exact h)]
  | d + 1, g, x, hd, _ => by
    show lpF (fun p y => if mxN T w (sg g (K - (d + 1)) p) (K - d) n < y.1 then shS T w n K d (sg g (K - (d + 1)) p) y else y) n 0 x = lpF (fun p y => alS T w n K d (sg g (K - (d + 1)) p) y) n 0 x
    congr 1
    funext p y
    by_cases h1 : mxN T w (sg g (K - (d + 1)) p) (K - d) n < y.1
    · rw [if_pos h1]
      exact shS_alS hT d _ y (by omega) h1
    · rw [if_neg h1, alS_skip hT d _ y (by omega) (by omega)]
theorem upS_up (x : Nat × (Nat → Nat)) (g : Nat → Nat) : upS T w n K (upS T w n K x g) g = upS T w n K x g := by
  unfold upS
  by_cases h : mxN T w g K n < x.1
  · rw [if_pos h]
    show (if mxN T w g K n < mxN T w g K n then _ else _) = _
    rw [if_neg (Nat.lt_irrefl _)]
  · rw [if_neg h, if_neg h]
/-- the first of all ways is the one with zeros -/
theorem alS_first (hn : 0 < n) : ∀ d g x, d ≤ K → (∀ j, K - d ≤ j → g j = 0) → alS T w n K d g x = alS T w n K d g (upS T w n K x g)
  | 0, g, x, _, _ => (upS_up x g).symm
  | d + 1, g, x, hd, hg => by
    have ih := alS_first hn d g x (by omega) (fun j hj => hg j (by omega))
    obtain ⟨m, rfl⟩ : ∃ m, n = m + 1 := ⟨n - 1, by omega⟩
    show lpF (fun p y => alS T w (m + 1) K d (sg g (K - (d + 1)) p) y) m (0 + 1) (alS T w (m + 1) K d (sg g (K - (d + 1)) 0) x) = lpF (fun p y => alS T w (m + 1) K d (sg g (K - (d + 1)) p) y) m (0 + 1) (alS T w (m + 1) K d (sg g (K - (d + 1)) 0) (upS T w (m + 1) K x g))
    rw [sg_id (hg _ (Nat.le_refl _)), ih]
/-- the next way, by the first k places -/
def nxS (n : Nat) (g : Nat → Nat) : Nat → Option (Nat → Nat)
  | 0 => none
  | k + 1 => if g k + 1 < n then some (sg g k (g k + 1)) else nxS n (sg g k 0) k
/-- one way behind the other -/
def odS (T : Nat → Nat → Nat) (w : Nat → Nat) (n K : Nat) : Nat → (Nat → Nat) → Nat × (Nat → Nat) → Nat × (Nat → Nat)
  | 0, _, x => x
  | f + 1, g, x => match nxS n g K with
    | none => upS T w n K x g
    | some g' => odS T w n K f g' (upS T w n K x g)
theorem odS_al (hn : 0 < n) : ∀ d g x f, d ≤ K → (∀ j, K - d ≤ j → g j = 0) → odS T w n K (n ^ d + f) g x = match nxS n g (K - d) with
    | none => alS T w n K d g x
    | some g' => odS T w n K f g' (alS T w n K d g x)
  | 0, g, x, f, _, _ => by
    rw [Nat.pow_zero, Nat.add_comm 1 f, Nat.sub_zero]
    rfl
  | d + 1, g, x, f, hd, hg => by
    have hz : ∀ p j, K - d ≤ j → sg g (K - (d + 1)) p j = 0 := fun p j hj => by rw [sg_n g (by omega)]; exact hg j (by omega)
    have lp : ∀ k p y, k + p + 1 = n → odS T w n K ((k + 1) * n ^ d + f) (sg g (K - (d + 1)) p) y = match nxS n g (K - (d + 1)) with
        | none => lpF (fun p y => alS T w n K d (sg g (K - (d + 1)) p) y) (k + 1) p y
        | some g' => odS T w n K f g' (lpF (fun p y => alS T w n K d (sg g (K - (d + 1)) p) y) (k + 1) p y) := by
      intro k
      induction k with
      | zero =>
        intro p y hp
        rw [show (0 + 1) * n ^ d + f = n ^ d + f by rw [Nat.zero_add, Nat.one_mul], odS_al hn d _ y f (by omega) (hz p)]
        have e : nxS n (sg g (K - (d + 1)) p) (K - d) = nxS n g (K - (d + 1)) := by
          rw [show K - d = K - (d + 1) + 1 by omega]
          show (if sg g (K - (d + 1)) p (K - (d + 1)) + 1 < n then _ else nxS n (sg (sg g (K - (d + 1)) p) (K - (d + 1)) 0) (K - (d + 1))) = _
          rw [sg_a, if_neg (by omega), sg_sg, sg_id (hg _ (Nat.le_refl _))]
        rw [e]
        rfl
      | succ k ih =>
        intro p y hp
        rw [show (k + 1 + 1) * n ^ d + f = n ^ d + ((k + 1) * n ^ d + f) by rw [Nat.succ_mul]; omega, odS_al hn d _ y _ (by omega) (hz p)]
        have e : nxS n (sg g (K - (d + 1)) p) (K - d) = some (sg g (K - (d + 1)) (p + 1)) := by
          rw [show K - d = K - (d + 1) + 1 by omega]
          show (if sg g (K - (d + 1)) p (K - (d + 1)) + 1 < n then some (sg (sg g (K - (d + 1)) p) (K - (d + 1)) (sg g (K - (d + 1)) p (K - (d + 1)) + 1)) else _) = _
          rw [sg_a, if_pos (by omega), sg_sg]
        rw [e]
        show odS T w n K ((k + 1) * n ^ d + f) (sg g (K - (d + 1)) (p + 1)) (alS T w n K d (sg g (K - (d + 1)) p) y) = _
        rw [ih (p + 1) _ (by omega)]
        rfl
    have := lp (n - 1) 0 x (by omega)
    rw [show n - 1 + 1 = n by omega, sg_id (hg _ (Nat.le_refl _)), Nat.mul_comm, ← Nat.pow_succ] at this
    exact this
end SHARE
