/-! The relation between the class's cells and the reference's. The reference's world is the truth. -/
/-- references: told is the Linen at t, spare the other one -/
def xm_R0 (t p k : Nat) : Option Nat :=
  if p = 0 then (if k = 0 then some 1 else if k = 1 then some 3 else if k = 2 then some (18 - t) else if k = 3 then some 21 else if k = 4 then some 52 else if k = 5 then some 61 else if k = 6 then some 73 else if k = 7 then some 74 else if k = 8 then some 79 else none)
  else if p = 1 then (if k = 0 then some 2 else none)
  else if p = 3 then (if k = 0 then some t else if k = 1 then some 4 else none)
  else if p = 5 ∨ p = 13 ∨ p = 24 ∨ p = 34 ∨ p = 44 then (if 12 ≤ k ∧ k ≤ 18 then some (p + (k - 11)) else none)
  else if p = 22 ∨ p = 32 ∨ p = 42 then (if k = 0 then some (p + 2) else if k = 1 then some (p + 1) else none)
  else if p = 21 then (if k < 3 then some (22 + 10 * k) else none)
  else if p = 52 then (if k < 4 then some (53 + 2 * k) else none)
  else if p = 53 ∨ p = 55 ∨ p = 57 ∨ p = 59 then (if k = 0 then some (p + 1) else none)
  else if p = 61 then (if k < 11 then some (62 + k) else none)
  else if p = 74 then (if k < 4 then some (75 + k) else none)
  else if p = 79 then (if k < 2 then some (80 + k) else none)
  else if p = 82 then (if k = 1 then some 83 else if k = 2 then some 84 else if k = 3 then some 85 else if k = 4 then some 86 else if k = 6 then some 87 else if k = 14 then some 88 else if 20 ≤ k ∧ k ≤ 22 then some (69 + k) else if 26 ≤ k ∧ k ≤ 32 then some (66 + k) else if 35 ≤ k ∧ k ≤ 38 then some (64 + k) else none)
  else none
/-- the tape: as long, the same bytes -/
def rl_tape (h : xm_H) : Prop := ∃ n, n ≤ 1000 ∧ h.1 1 1 = nI n ∧ h.1 82 5 = nI n ∧ ∀ j, j < n → h.1 2 j = h.1 86 j ∧ ∃ b : Int8, h.1 2 j = b.toInt32
def rl_fault (h : xm_H) : Prop := h.1 1 2 = h.1 82 12 ∧ h.1 1 3 = h.1 82 13
/-- what a reference's world can be: ranges -/
def rl_in (x : Int32) (a b : Nat) : Prop := ∃ n, a ≤ n ∧ n ≤ b ∧ x = nI n
def rl_wf (w : Nat → Int32) : Prop :=
  rl_in (w 22) 0 1000 ∧ (w 22 = 0 → ∀ k, k < 110 → w k = 0) ∧ (¬ w 22 = 0 →
    rl_in (w 0) 1 48 ∧ rl_in (w 1) 1 48 ∧ rl_in (w 2) 1 9 ∧ rl_in (w 3) 1 60 ∧ rl_in (w 4) 1 60 ∧ (∀ k, k < 6 → rl_in (w (5 + k)) 1 99)) ∧
  rl_in (w 11) 0 50 ∧ rl_in (w 12) 0 50 ∧ (w 13 = 0 ∨ w 13 = 1 ∧ rl_in (w 14) 1 48 ∧ rl_in (w 15) 1 48 ∧ rl_in (w 16) 0 2 ∧ rl_in (w 17) 0 5) ∧ rl_in (w 18) 0 999 ∧
  (∃ c, c ≤ 6 ∧ w 19 = nI c ∧ ∀ j, j < c → rl_in (w (24 + 2 * j)) 0 3 ∧ rl_in (w (25 + 2 * j)) 0 3) ∧
  (∃ c, c ≤ 4 ∧ w 20 = nI c ∧ ∀ j, j < c → rl_in (w (36 + 2 * j)) 1 99 ∧ rl_in (w (37 + 2 * j)) 0 999) ∧
  (∃ c, c ≤ 6 ∧ w 21 = nI c ∧ ∀ j, j < c → rl_in (w (44 + j)) 1 60) ∧
  (∃ c, c ≤ 60 ∧ w 23 = nI c ∧ ∀ j, j < c → rl_in (w (50 + j)) 0 12)
/-- the Linen object at L tells what the world w tells -/
def rl_linen (h : xm_H) (L : Nat) (w : Nat → Int32) : Prop :=
  h.1 L 0 = w 22 ∧ h.1 L 1 = w 0 ∧ h.1 L 2 = w 1 ∧ h.1 L 3 = w 2 ∧ h.1 L 4 = w 3 ∧ h.1 L 5 = w 4 ∧ h.1 L 6 = w 19 ∧ h.1 L 7 = w 11 ∧ h.1 L 8 = w 12 ∧ h.1 L 9 = w 18 ∧ h.1 L 10 = w 20 ∧ h.1 L 11 = w 21 ∧
  (w 13 = 0 → h.1 (L + 1) 0 = 0) ∧ (w 13 = 1 → h.1 (L + 1) 0 = w 14 ∧ h.1 (L + 1) 1 = w 15 ∧ h.1 (L + 1) 2 = w 16 ∧ h.1 (L + 1) 3 = w 17) ∧
  (¬ w 22 = 0 → ∀ k, k < 6 → h.1 (L + 2) k = w (5 + k)) ∧
  (∀ j, nI j < w 19 → j < 6 → h.1 (L + 3) j = w (24 + 2 * j) ∧ h.1 (L + 4) j = w (25 + 2 * j)) ∧
  (∀ j, nI j < w 20 → j < 4 → h.1 (L + 5) j = w (36 + 2 * j) ∧ h.1 (L + 6) j = w (37 + 2 * j)) ∧
  (∀ j, nI j < w 21 → j < 6 → h.1 (L + 7) j = w (44 + j))
/-- the rows of the SLOTs -/
def rl_row (h : xm_H) (s : Nat) : Prop :=
  (h.1 (53 + 2 * s) 1 = 0 ∧ h.1 99 s = -1) ∨ (h.1 (53 + 2 * s) 1 = 1 ∧ ∃ m, m ≤ 60 ∧ h.1 (53 + 2 * s) 3 = nI m ∧ h.1 99 s = nI m ∧ ∃ w, w ≤ 3 ∧ h.1 (53 + 2 * s) 2 = nI w ∧ h.1 100 s = nI w ∧ ∀ i, i < m → h.2.1 (54 + 2 * s) i = h.2.1 101 (60 * s + i))
def rl_rows (h : xm_H) : Prop := ∀ s, s < 4 → rl_row h s
