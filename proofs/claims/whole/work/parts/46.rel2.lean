/-! The relation whole; frames; small predicates on both sides. Printed by wip/src/mk46.py -/
/-- a Linen by its rows: the object, the wish, takes, her, his, skill, learns, sheets -/
def rl_lin (f0 f1 f2 f3 f4 f5 f6 f7 w : Nat → Int32) : Prop :=
  f0 0 = w 22 ∧ f0 1 = w 0 ∧ f0 2 = w 1 ∧ f0 3 = w 2 ∧ f0 4 = w 3 ∧ f0 5 = w 4 ∧ f0 6 = w 19 ∧ f0 7 = w 11 ∧ f0 8 = w 12 ∧ f0 9 = w 18 ∧ f0 10 = w 20 ∧ f0 11 = w 21 ∧
  (w 13 = 0 → f1 0 = 0) ∧ (w 13 = 1 → f1 0 = w 14 ∧ f1 1 = w 15 ∧ f1 2 = w 16 ∧ f1 3 = w 17) ∧
  (¬ w 22 = 0 → ∀ k, k < 6 → f2 k = w (5 + k)) ∧
  (∀ j, nI j < w 19 → j < 6 → f3 j = w (24 + 2 * j) ∧ f4 j = w (25 + 2 * j)) ∧
  (∀ j, nI j < w 20 → j < 4 → f5 j = w (36 + 2 * j) ∧ f6 j = w (37 + 2 * j)) ∧
  (∀ j, nI j < w 21 → j < 6 → f7 j = w (44 + j))
/-- the state behind the first n acts -/
def rp (w : Nat → Int32) : Nat → Option St
  | 0 => some ((w 0).toNatClampNeg, (w 1).toNatClampNeg, 0, 0, 2)
  | n + 1 => (rp w n).bind (fun s => st_do (w 3).toNatClampNeg (w (50 + n)).toNatClampNeg s)
/-- seconds of an act, of the first n acts -/
def sc1 (w : Nat → Int32) (a : Nat) : Int32 := if a = 12 then 0 else if a < 2 then w 5 else if a = 2 then w 6 else if a < 6 then w 7 else if a < 8 then w 8 else if a = 8 then w 9 else if a = 9 then w 10 else w 5
def sc (w : Nat → Int32) : Nat → Int32
  | 0 => 0
  | n + 1 => sc w n + sc1 w (w (50 + n)).toNatClampNeg
/-- a Work by its rows: the object, acts -/
def rl_wk (f0 f1 w : Nat → Int32) : Prop := f0 2 = w 23 ∧ (∀ i, i < 60 → nI i < w 23 → f1 i = w (50 + i)) ∧ (¬ w 22 = 0 → ∃ s, rp w (w 23).toNatClampNeg = some s ∧ st_K s ∧ f0 3 = st_P s ∧ f0 4 = sc w (w 23).toNatClampNeg)
def rl_im (f85 f84 : Nat → Int32) (k : Nat) (g : Nat → Nat → Int32) : Prop := (g 0 5 = 0 ∧ f85 k = 0) ∨ (g 0 5 = 1 ∧ f85 k = 1 ∧ rl_wf (fun j => f84 (110 * k + j)) ∧ rl_lin (g 2) (g 3) (g 4) (g 5) (g 6) (g 7) (g 8) (g 9) (fun j => f84 (110 * k + j)) ∧ rl_wk (g 0) (g 1) (fun j => f84 (110 * k + j)))
/-- what holds between the class's cells and the reference's; SI is what holds of the Search alone -/
def Rel (SI : (Nat → Nat → Int32) → (Nat → Nat → Int64) → Prop) (h : xm_H) : Prop := ∃ t, (t = 5 ∨ t = 13) ∧ h.2.2 = xm_R0 t ∧ rl_tape h ∧ rl_fault h ∧ rl_wf (h.1 83) ∧ rl_lin (h.1 t) (h.1 (t + 1)) (h.1 (t + 2)) (h.1 (t + 3)) (h.1 (t + 4)) (h.1 (t + 5)) (h.1 (t + 6)) (h.1 (t + 7)) (h.1 83) ∧ rl_wk (h.1 3) (h.1 4) (h.1 83) ∧ (∀ k, k < 3 → rl_im (h.1 85) (h.1 84) k (fun j => h.1 (22 + 10 * k + j))) ∧ rl_rows h ∧ SI (fun p => if p < 12 then h.1 (61 + p) else fun _ => 0) (fun p => if p < 12 then h.2.1 (61 + p) else fun _ => 0)

section OPS
variable {L : Nat} {xs : Nat → Int32} {d : Nat} {SI : (Nat → Nat → Int32) → (Nat → Nat → Int64) → Prop}

/-- cells that the relation reads whole -/
def rl_cell (q : Nat) : Prop := (2 ≤ q ∧ q ≤ 20) ∨ (22 ≤ q ∧ q ≤ 51) ∨ (53 ≤ q ∧ q ≤ 72) ∨ (83 ≤ q ∧ q ≤ 86) ∨ (99 ≤ q ∧ q ≤ 101)
/-- what is written elsewhere doesn't matter -/
theorem Rel.frame {h h' : xm_H} (hr : Rel SI h) (h2 : h'.2.2 = h.2.2) (row : ∀ q, rl_cell q → h'.1 q = h.1 q) (rol : ∀ q, rl_cell q → h'.2.1 q = h.2.1 q) (r1 : ∀ j, j = 1 ∨ j = 2 ∨ j = 3 → h'.1 1 j = h.1 1 j) (r82 : ∀ j, j = 5 ∨ j = 12 ∨ j = 13 → h'.1 82 j = h.1 82 j) : Rel SI h' := by
  obtain ⟨t, ht, hR, ⟨n, hn, h1, h5, hb⟩, hf, hw, hli, hwk, him, hro, hsi⟩ := hr
  refine ⟨t, ht, h2.trans hR, ⟨n, hn, (r1 1 (by omega)).trans h1, (r82 5 (by omega)).trans h5, fun j hj => ?_⟩, ⟨?_, ?_⟩, ?_, ?_, ?_, fun k hk => ?_, fun s hs => ?_, ?_⟩
  · rw [row 2 (by unfold rl_cell; omega), row 86 (by unfold rl_cell; omega)]
    exact hb j hj
  · rw [r1 2 (by omega), r82 12 (by omega)]; exact hf.1
  · rw [r1 3 (by omega), r82 13 (by omega)]; exact hf.2
  · rw [row 83 (by unfold rl_cell; omega)]; exact hw
  · rw [row 83 (by unfold rl_cell; omega), row t (by unfold rl_cell; omega), row (t + 1) (by unfold rl_cell; omega), row (t + 2) (by unfold rl_cell; omega), row (t + 3) (by unfold rl_cell; omega), row (t + 4) (by unfold rl_cell; omega), row (t + 5) (by unfold rl_cell; omega), row (t + 6) (by unfold rl_cell; omega), row (t + 7) (by unfold rl_cell; omega)]
    exact hli
  · rw [row 83 (by unfold rl_cell; omega), row 3 (by unfold rl_cell; omega), row 4 (by unfold rl_cell; omega)]
    exact hwk
  · have h6 := him k hk
    unfold rl_im at h6 ⊢
    rw [row 85 (by unfold rl_cell; omega), row 84 (by unfold rl_cell; omega)]
    simp only [row (22 + 10 * k + 0) (by unfold rl_cell; omega), row (22 + 10 * k + 1) (by unfold rl_cell; omega), row (22 + 10 * k + 2) (by unfold rl_cell; omega), row (22 + 10 * k + 3) (by unfold rl_cell; omega), row (22 + 10 * k + 4) (by unfold rl_cell; omega), row (22 + 10 * k + 5) (by unfold rl_cell; omega), row (22 + 10 * k + 6) (by unfold rl_cell; omega), row (22 + 10 * k + 7) (by unfold rl_cell; omega), row (22 + 10 * k + 8) (by unfold rl_cell; omega), row (22 + 10 * k + 9) (by unfold rl_cell; omega)]
    exact h6
  · have h6 := hro s hs
    unfold rl_row at h6 ⊢
    rw [row (53 + 2 * s) (by unfold rl_cell; omega), row 99 (by unfold rl_cell; omega), row 100 (by unfold rl_cell; omega), rol (54 + 2 * s) (by unfold rl_cell; omega), rol 101 (by unfold rl_cell; omega)]
    exact h6
  · have e1 : (fun p => if p < 12 then h'.1 (61 + p) else fun _ => 0) = (fun p => if p < 12 then h.1 (61 + p) else fun _ => 0) := by
      funext p
      by_cases hp : p < 12
      · rw [if_pos hp, if_pos hp, row (61 + p) (by unfold rl_cell; omega)]
      · rw [if_neg hp, if_neg hp]
    have e2 : (fun p => if p < 12 then h'.2.1 (61 + p) else fun _ => 0) = (fun p => if p < 12 then h.2.1 (61 + p) else fun _ => 0) := by
      funext p
      by_cases hp : p < 12
      · rw [if_pos hp, if_pos hp, rol (61 + p) (by unfold rl_cell; omega)]
      · rw [if_neg hp, if_neg hp]
    rw [e1, e2]
    exact hsi
/-- a write into the tape's object and into the reference's own, where nothing else is told -/
theorem Rel.tape {h : xm_H} {x : Int32} (hr : Rel SI h) (hx : ∃ m n, m ≤ n ∧ h.1 1 1 = nI n ∧ n ≤ 1000 ∧ x = nI m) : Rel SI (xm_si (xm_si h 1 1 x) 82 5 x) := by
  obtain ⟨t, ht, hR, ⟨n, hn, h1, h2, hb⟩, hf, hw, hli, hwk, him, hro, hsi⟩ := hr
  obtain ⟨m, n', hm, h1', hn', rfl⟩ := hx
  have hnn : n = n' := (nI_eq (by omega) (by omega)).mp (h1.symm.trans h1')
  subst hnn
  have row : ∀ q, q ≠ 1 → q ≠ 82 → (xm_si (xm_si h 1 1 (nI m)) 82 5 (nI m)).1 q = h.1 q := by
    intro q q1 q2
    simp [xm_si, q1, q2]
  have r1 : ∀ j, j ≠ 1 → (xm_si (xm_si h 1 1 (nI m)) 82 5 (nI m)).1 1 j = h.1 1 j := by
    intro j hj
    simp [xm_si, upd, hj]
  have r82 : ∀ j, j ≠ 5 → (xm_si (xm_si h 1 1 (nI m)) 82 5 (nI m)).1 82 j = h.1 82 j := by
    intro j hj
    simp [xm_si, upd, hj]
  have l2 : (xm_si (xm_si h 1 1 (nI m)) 82 5 (nI m)).2.1 = h.2.1 := rfl
  refine ⟨t, ht, hR, ⟨m, by omega, by simp [xm_si, upd], by simp [xm_si, upd], fun j hj => ?_⟩, ⟨?_, ?_⟩, ?_, ?_, ?_, fun k hk => ?_, fun s hs => ?_, ?_⟩
  · rw [row 2 (by decide) (by decide), row 86 (by decide) (by decide)]
    exact hb j (by omega)
  · rw [r1 2 (by decide), r82 12 (by decide)]; exact hf.1
  · rw [r1 3 (by decide), r82 13 (by decide)]; exact hf.2
  · rw [row 83 (by decide) (by decide)]; exact hw
  · rw [row 83 (by decide) (by decide), row t (by omega) (by omega), row (t + 1) (by omega) (by omega), row (t + 2) (by omega) (by omega), row (t + 3) (by omega) (by omega), row (t + 4) (by omega) (by omega), row (t + 5) (by omega) (by omega), row (t + 6) (by omega) (by omega), row (t + 7) (by omega) (by omega)]
    exact hli
  · rw [row 83 (by decide) (by decide), row 3 (by decide) (by decide), row 4 (by decide) (by decide)]
    exact hwk
  · have h5 := him k hk
    unfold rl_im at h5 ⊢
    rw [row 85 (by decide) (by decide), row 84 (by decide) (by decide)]
    simp only [row (22 + 10 * k + 0) (by omega) (by omega), row (22 + 10 * k + 1) (by omega) (by omega), row (22 + 10 * k + 2) (by omega) (by omega), row (22 + 10 * k + 3) (by omega) (by omega), row (22 + 10 * k + 4) (by omega) (by omega), row (22 + 10 * k + 5) (by omega) (by omega), row (22 + 10 * k + 6) (by omega) (by omega), row (22 + 10 * k + 7) (by omega) (by omega), row (22 + 10 * k + 8) (by omega) (by omega), row (22 + 10 * k + 9) (by omega) (by omega)]
    exact h5
  · have h6 := hro s hs
    unfold rl_row at h6 ⊢
    rw [row (53 + 2 * s) (by omega) (by omega), row 99 (by decide) (by decide), row 100 (by decide) (by decide), l2]
    exact h6
  · have e1 : (fun p => if p < 12 then (xm_si (xm_si h 1 1 (nI m)) 82 5 (nI m)).1 (61 + p) else fun _ => 0) = (fun p => if p < 12 then h.1 (61 + p) else fun _ => 0) := by
      funext p
      by_cases hp : p < 12
      · rw [if_pos hp, if_pos hp, row (61 + p) (by omega) (by omega)]
      · rw [if_neg hp, if_neg hp]
    rw [e1, l2]
    exact hsi

/-- the world below 50, done aside -/
def rl_same (w w' : Nat → Int32) : Prop := ∀ k, k ≠ 23 → k < 50 → w' k = w k
theorem rl_lin_w {f0 f1 f2 f3 f4 f5 f6 f7 w w' : Nat → Int32} (hw : rl_same w w') (hl : rl_lin f0 f1 f2 f3 f4 f5 f6 f7 w) : rl_lin f0 f1 f2 f3 f4 f5 f6 f7 w' := by
  obtain ⟨a0, a1, a2, a3, a4, a5, a6, a7, a8, a9, a10, a11, a12, a13, a14, a15, a16, a17⟩ := hl
  unfold rl_lin
  rw [hw 22 (by decide) (by decide), hw 0 (by decide) (by decide), hw 1 (by decide) (by decide), hw 2 (by decide) (by decide), hw 3 (by decide) (by decide), hw 4 (by decide) (by decide), hw 19 (by decide) (by decide), hw 11 (by decide) (by decide), hw 12 (by decide) (by decide), hw 18 (by decide) (by decide), hw 20 (by decide) (by decide), hw 21 (by decide) (by decide), hw 13 (by decide) (by decide), hw 14 (by decide) (by decide), hw 15 (by decide) (by decide), hw 16 (by decide) (by decide), hw 17 (by decide) (by decide)]
  refine ⟨a0, a1, a2, a3, a4, a5, a6, a7, a8, a9, a10, a11, a12, a13, ?_, ?_, ?_, ?_⟩
  · intro hn k hk
    rw [hw (5 + k) (by omega) (by omega)]
    exact a14 hn k hk
  · intro j hj h6
    rw [hw (24 + 2 * j) (by omega) (by omega), hw (25 + 2 * j) (by omega) (by omega)]
    exact a15 j hj h6
  · intro j hj h6
    rw [hw (36 + 2 * j) (by omega) (by omega), hw (37 + 2 * j) (by omega) (by omega)]
    exact a16 j hj h6
  · intro j hj h6
    rw [hw (44 + j) (by omega) (by omega)]
    exact a17 j hj h6
theorem rl_wf_w {w w' : Nat → Int32} (hw : rl_same w w') (hl : rl_wf w) (hn : ¬ w 22 = 0) (hd : ∃ c, c ≤ 60 ∧ w' 23 = nI c ∧ ∀ j, j < c → rl_in (w' (50 + j)) 0 12) : rl_wf w' := by
  obtain ⟨a0, a1, a2, a3, a4, a5, a6, ⟨c1, b1, b2, b3⟩, ⟨c2, b4, b5, b6⟩, ⟨c3, b7, b8, b9⟩, -⟩ := hl
  unfold rl_wf
  rw [hw 22 (by decide) (by decide), hw 0 (by decide) (by decide), hw 1 (by decide) (by decide), hw 2 (by decide) (by decide), hw 3 (by decide) (by decide), hw 4 (by decide) (by decide), hw 11 (by decide) (by decide), hw 12 (by decide) (by decide), hw 13 (by decide) (by decide), hw 14 (by decide) (by decide), hw 15 (by decide) (by decide), hw 16 (by decide) (by decide), hw 17 (by decide) (by decide), hw 18 (by decide) (by decide), hw 19 (by decide) (by decide), hw 20 (by decide) (by decide), hw 21 (by decide) (by decide)]
  refine ⟨a0, fun h0 => absurd h0 hn, fun h0 => ?_, a3, a4, a5, a6, ⟨c1, b1, b2, fun j hj => ?_⟩, ⟨c2, b4, b5, fun j hj => ?_⟩, ⟨c3, b7, b8, fun j hj => ?_⟩, hd⟩
  · obtain ⟨q0, q1, q2', q3, q4, q5⟩ := a2 h0
    refine ⟨q0, q1, q2', q3, q4, fun k hk => ?_⟩
    rw [hw (5 + k) (by omega) (by omega)]
    exact q5 k hk
  · rw [hw (24 + 2 * j) (by omega) (by omega), hw (25 + 2 * j) (by omega) (by omega)]
    exact b3 j hj
  · rw [hw (36 + 2 * j) (by omega) (by omega), hw (37 + 2 * j) (by omega) (by omega)]
    exact b6 j hj
  · rw [hw (44 + j) (by omega) (by omega)]
    exact b9 j hj
/-- the work changes, and what is done in the world; all else stays -/
theorem Rel.work {h h' : xm_H} (hr : Rel SI h) (h2 : h'.2.2 = h.2.2) (row : ∀ q, rl_cell q → q ≠ 3 → q ≠ 4 → q ≠ 83 → h'.1 q = h.1 q) (rol : ∀ q, rl_cell q → h'.2.1 q = h.2.1 q) (r1 : ∀ j, j = 1 ∨ j = 2 ∨ j = 3 → h'.1 1 j = h.1 1 j) (r82 : ∀ j, j = 5 ∨ j = 12 ∨ j = 13 → h'.1 82 j = h.1 82 j) (hs : rl_same (h.1 83) (h'.1 83)) (hn : ¬ h.1 83 22 = 0) (hwk' : rl_wk (h'.1 3) (h'.1 4) (h'.1 83)) (hd : ∃ c, c ≤ 60 ∧ h'.1 83 23 = nI c ∧ ∀ j, j < c → rl_in (h'.1 83 (50 + j)) 0 12) : Rel SI h' := by
  obtain ⟨t, ht, hR, ⟨n, hn', h1, h5, hb⟩, hf, hw, hli, hwk, him, hro, hsi⟩ := hr
  refine ⟨t, ht, h2.trans hR, ⟨n, hn', (r1 1 (by omega)).trans h1, (r82 5 (by omega)).trans h5, fun j hj => ?_⟩, ⟨?_, ?_⟩, rl_wf_w hs hw hn hd, ?_, hwk', fun k hk => ?_, fun s hs => ?_, ?_⟩
  · rw [row 2 (by unfold rl_cell; omega) (by omega) (by omega) (by omega), row 86 (by unfold rl_cell; omega) (by omega) (by omega) (by omega)]
    exact hb j hj
  · rw [r1 2 (by omega), r82 12 (by omega)]; exact hf.1
  · rw [r1 3 (by omega), r82 13 (by omega)]; exact hf.2
  · rw [row t (by unfold rl_cell; omega) (by omega) (by omega) (by omega), row (t + 1) (by unfold rl_cell; omega) (by omega) (by omega) (by omega), row (t + 2) (by unfold rl_cell; omega) (by omega) (by omega) (by omega), row (t + 3) (by unfold rl_cell; omega) (by omega) (by omega) (by omega), row (t + 4) (by unfold rl_cell; omega) (by omega) (by omega) (by omega), row (t + 5) (by unfold rl_cell; omega) (by omega) (by omega) (by omega), row (t + 6) (by unfold rl_cell; omega) (by omega) (by omega) (by omega), row (t + 7) (by unfold rl_cell; omega) (by omega) (by omega) (by omega)]
    exact rl_lin_w hs hli
  · have h6 := him k hk
    unfold rl_im at h6 ⊢
    rw [row 85 (by unfold rl_cell; omega) (by omega) (by omega) (by omega), row 84 (by unfold rl_cell; omega) (by omega) (by omega) (by omega)]
    simp only [row (22 + 10 * k + 0) (by unfold rl_cell; omega) (by omega) (by omega) (by omega), row (22 + 10 * k + 1) (by unfold rl_cell; omega) (by omega) (by omega) (by omega), row (22 + 10 * k + 2) (by unfold rl_cell; omega) (by omega) (by omega) (by omega), row (22 + 10 * k + 3) (by unfold rl_cell; omega) (by omega) (by omega) (by omega), row (22 + 10 * k + 4) (by unfold rl_cell; omega) (by omega) (by omega) (by omega), row (22 + 10 * k + 5) (by unfold rl_cell; omega) (by omega) (by omega) (by omega), row (22 + 10 * k + 6) (by unfold rl_cell; omega) (by omega) (by omega) (by omega), row (22 + 10 * k + 7) (by unfold rl_cell; omega) (by omega) (by omega) (by omega), row (22 + 10 * k + 8) (by unfold rl_cell; omega) (by omega) (by omega) (by omega), row (22 + 10 * k + 9) (by unfold rl_cell; omega) (by omega) (by omega) (by omega)]
    exact h6
  · have h6 := hro s hs
    unfold rl_row at h6 ⊢
    rw [row (53 + 2 * s) (by unfold rl_cell; omega) (by omega) (by omega) (by omega), row 99 (by unfold rl_cell; omega) (by omega) (by omega) (by omega), row 100 (by unfold rl_cell; omega) (by omega) (by omega) (by omega), rol (54 + 2 * s) (by unfold rl_cell; omega), rol 101 (by unfold rl_cell; omega)]
    exact h6
  · have e1 : (fun p => if p < 12 then h'.1 (61 + p) else fun _ => 0) = (fun p => if p < 12 then h.1 (61 + p) else fun _ => 0) := by
      funext p
      by_cases hp : p < 12
      · rw [if_pos hp, if_pos hp, row (61 + p) (by unfold rl_cell; omega) (by omega) (by omega) (by omega)]
      · rw [if_neg hp, if_neg hp]
    have e2 : (fun p => if p < 12 then h'.2.1 (61 + p) else fun _ => 0) = (fun p => if p < 12 then h.2.1 (61 + p) else fun _ => 0) := by
      funext p
      by_cases hp : p < 12
      · rw [if_pos hp, if_pos hp, rol (61 + p) (by unfold rl_cell; omega)]
      · rw [if_neg hp, if_neg hp]
    rw [e1, e2]
    exact hsi
theorem rp_w {w w' : Nat → Int32} (h0 : w' 0 = w 0) (h1 : w' 1 = w 1) (h3 : w' 3 = w 3) : ∀ n, (∀ i, i < n → w' (50 + i) = w (50 + i)) → rp w' n = rp w n
  | 0, _ => by simp only [rp, h0, h1]
  | n + 1, hi => by
    have e := rp_w h0 h1 h3 n (fun i h => hi i (by omega))
    simp only [rp, e, h3, hi n (by omega)]
theorem sc_w {w w' : Nat → Int32} (h5 : ∀ k, k < 6 → w' (5 + k) = w (5 + k)) : ∀ n, (∀ i, i < n → w' (50 + i) = w (50 + i)) → sc w' n = sc w n
  | 0, _ => rfl
  | n + 1, hi => by
    have e := sc_w h5 n (fun i h => hi i (by omega))
    have e1 : sc1 w' = sc1 w := by
      funext a
      unfold sc1
      rw [h5 0 (by omega), h5 1 (by omega), h5 2 (by omega), h5 3 (by omega), h5 4 (by omega), h5 5 (by omega)]
    simp only [sc, e, e1, hi n (by omega)]
theorem rp_K {w : Nat → Int32} (h0 : rl_in (w 0) 1 48) (h1 : rl_in (w 1) 1 48) : ∀ n, (∀ j, j < n → rl_in (w (50 + j)) 0 12) → ∀ s, rp w n = some s → st_K s
  | 0, _, s, e => by
    obtain ⟨a, ha, hb, e0⟩ := h0
    obtain ⟨b, hc, hd, e1⟩ := h1
    simp only [rp, e0, e1, nI_clamp (show a < 2 ^ 31 by omega), nI_clamp (show b < 2 ^ 31 by omega), Option.some.injEq] at e
    subst e
    exact ⟨⟨ha, hb⟩, ⟨hc, hd⟩, by show (0 : Nat) < 5; omega, by show (0 : Nat) < 2; omega, by show (2 : Nat) < 5; omega⟩
  | n + 1, hi, s, e => by
    cases hq : rp w n with
    | none => simp only [rp, hq, Option.bind] at e; cases e
    | some s1 =>
      have hk := rp_K h0 h1 n (fun j h => hi j (by omega)) s1 hq
      simp only [rp, hq, Option.bind] at e
      obtain ⟨a, -, ha, ea⟩ := hi n (by omega)
      rw [ea, nI_clamp (by omega)] at e
      exact st_do_K hk e ha
theorem rp_pre {w : Nat → Int32} {s : St} : ∀ {c : Nat}, rp w c = some s → ∀ {n : Nat}, n ≤ c → ∃ s', rp w n = some s'
  | 0, e, n, hn => ⟨s, by rw [show n = 0 by omega]; exact e⟩
  | c + 1, e, n, hn => by
    by_cases q : n = c + 1
    · exact ⟨s, by rw [q]; exact e⟩
    · cases hq : rp w c with
      | none => simp only [rp, hq, Option.bind] at e; cases e
      | some s1 => exact rp_pre hq (by omega)
/-- a natural between two -/
def nb (a : Int32) (k m : Nat) : Prop := ∃ j, k ≤ j ∧ j ≤ m ∧ a = nI j
theorem nb_nat {j k m : Nat} (hj : j < 2147483648) (hm : m < 2147483648) (h : ¬ nb (nI j) k m) : j < k ∨ m < j := by
  by_cases q : k ≤ j ∧ j ≤ m
  · exact absurd ⟨j, q.1, q.2, rfl⟩ h
  · omega
theorem in_y {a : Int32} {k m : Nat} (hk : k < 2147483648) (hm : m < 2147483648) (h : nb a k m) : F_X11_in a.toInt64 (nI k).toInt64 (nI m).toInt64 = 1 := by
  obtain ⟨j, h1, h2, rfl⟩ := h
  rw [in_nat (by omega) hk hm, if_pos ⟨h1, h2⟩]
theorem in_n {a : Int32} {k m : Nat} (hk : k < 2147483648) (hm : m < 2147483648) (h : ¬ nb a k m) : F_X11_in a.toInt64 (nI k).toInt64 (nI m).toInt64 = 0 := by
  rcases nj_or a with h0 | ⟨j, hj, rfl⟩
  · exact in_neg h0 hk hm
  · rw [in_nat hj hk hm, if_neg]
    have := nb_nat hj hm h
    omega
theorem lj_0 : (0 : Int64) = (nI 0).toInt64 := by decide +kernel
theorem lj_1 : (1 : Int64) = (nI 1).toInt64 := by decide +kernel
theorem lj_2 : (2 : Int64) = (nI 2).toInt64 := by decide +kernel
theorem lj_3 : (3 : Int64) = (nI 3).toInt64 := by decide +kernel
theorem lj_7 : (7 : Int64) = (nI 7).toInt64 := by decide +kernel
theorem lj_9 : (9 : Int64) = (nI 9).toInt64 := by decide +kernel
theorem lj_12 : (12 : Int64) = (nI 12).toInt64 := by decide +kernel
theorem lj_20 : (20 : Int64) = (nI 20).toInt64 := by decide +kernel
theorem lj_48 : (48 : Int64) = (nI 48).toInt64 := by decide +kernel
theorem lj_60 : (60 : Int64) = (nI 60).toInt64 := by decide +kernel
theorem lj_999 : (999 : Int64) = (nI 999).toInt64 := by decide +kernel
theorem lj_2000000000 : (2000000000 : Int64) = (nI 2000000000).toInt64 := by decide +kernel
theorem in_0_1 (a : Int32) : (nb a 0 1 → F_X11_in a.toInt64 (0 : Int64) (1 : Int64) = 1) ∧ (¬ nb a 0 1 → F_X11_in a.toInt64 (0 : Int64) (1 : Int64) = 0) := by
  rw [lj_0, lj_1]
  exact ⟨in_y (by omega) (by omega), in_n (by omega) (by omega)⟩
theorem in_0_2 (a : Int32) : (nb a 0 2 → F_X11_in a.toInt64 (0 : Int64) (2 : Int64) = 1) ∧ (¬ nb a 0 2 → F_X11_in a.toInt64 (0 : Int64) (2 : Int64) = 0) := by
  rw [lj_0, lj_2]
  exact ⟨in_y (by omega) (by omega), in_n (by omega) (by omega)⟩
theorem in_0_3 (a : Int32) : (nb a 0 3 → F_X11_in a.toInt64 (0 : Int64) (3 : Int64) = 1) ∧ (¬ nb a 0 3 → F_X11_in a.toInt64 (0 : Int64) (3 : Int64) = 0) := by
  rw [lj_0, lj_3]
  exact ⟨in_y (by omega) (by omega), in_n (by omega) (by omega)⟩
theorem in_0_7 (a : Int32) : (nb a 0 7 → F_X11_in a.toInt64 (0 : Int64) (7 : Int64) = 1) ∧ (¬ nb a 0 7 → F_X11_in a.toInt64 (0 : Int64) (7 : Int64) = 0) := by
  rw [lj_0, lj_7]
  exact ⟨in_y (by omega) (by omega), in_n (by omega) (by omega)⟩
theorem in_0_9 (a : Int32) : (nb a 0 9 → F_X11_in a.toInt64 (0 : Int64) (9 : Int64) = 1) ∧ (¬ nb a 0 9 → F_X11_in a.toInt64 (0 : Int64) (9 : Int64) = 0) := by
  rw [lj_0, lj_9]
  exact ⟨in_y (by omega) (by omega), in_n (by omega) (by omega)⟩
theorem in_0_12 (a : Int32) : (nb a 0 12 → F_X11_in a.toInt64 (0 : Int64) (12 : Int64) = 1) ∧ (¬ nb a 0 12 → F_X11_in a.toInt64 (0 : Int64) (12 : Int64) = 0) := by
  rw [lj_0, lj_12]
  exact ⟨in_y (by omega) (by omega), in_n (by omega) (by omega)⟩
theorem in_0_20 (a : Int32) : (nb a 0 20 → F_X11_in a.toInt64 (0 : Int64) (20 : Int64) = 1) ∧ (¬ nb a 0 20 → F_X11_in a.toInt64 (0 : Int64) (20 : Int64) = 0) := by
  rw [lj_0, lj_20]
  exact ⟨in_y (by omega) (by omega), in_n (by omega) (by omega)⟩
theorem in_1_20 (a : Int32) : (nb a 1 20 → F_X11_in a.toInt64 (1 : Int64) (20 : Int64) = 1) ∧ (¬ nb a 1 20 → F_X11_in a.toInt64 (1 : Int64) (20 : Int64) = 0) := by
  rw [lj_1, lj_20]
  exact ⟨in_y (by omega) (by omega), in_n (by omega) (by omega)⟩
theorem in_1_48 (a : Int32) : (nb a 1 48 → F_X11_in a.toInt64 (1 : Int64) (48 : Int64) = 1) ∧ (¬ nb a 1 48 → F_X11_in a.toInt64 (1 : Int64) (48 : Int64) = 0) := by
  rw [lj_1, lj_48]
  exact ⟨in_y (by omega) (by omega), in_n (by omega) (by omega)⟩
theorem in_1_60 (a : Int32) : (nb a 1 60 → F_X11_in a.toInt64 (1 : Int64) (60 : Int64) = 1) ∧ (¬ nb a 1 60 → F_X11_in a.toInt64 (1 : Int64) (60 : Int64) = 0) := by
  rw [lj_1, lj_60]
  exact ⟨in_y (by omega) (by omega), in_n (by omega) (by omega)⟩
theorem in_0_999 (a : Int32) : (nb a 0 999 → F_X11_in a.toInt64 (0 : Int64) (999 : Int64) = 1) ∧ (¬ nb a 0 999 → F_X11_in a.toInt64 (0 : Int64) (999 : Int64) = 0) := by
  rw [lj_0, lj_999]
  exact ⟨in_y (by omega) (by omega), in_n (by omega) (by omega)⟩
theorem in_1_999 (a : Int32) : (nb a 1 999 → F_X11_in a.toInt64 (1 : Int64) (999 : Int64) = 1) ∧ (¬ nb a 1 999 → F_X11_in a.toInt64 (1 : Int64) (999 : Int64) = 0) := by
  rw [lj_1, lj_999]
  exact ⟨in_y (by omega) (by omega), in_n (by omega) (by omega)⟩
theorem in_0_2000000000 (a : Int32) : (nb a 0 2000000000 → F_X11_in a.toInt64 (0 : Int64) (2000000000 : Int64) = 1) ∧ (¬ nb a 0 2000000000 → F_X11_in a.toInt64 (0 : Int64) (2000000000 : Int64) = 0) := by
  rw [lj_0, lj_2000000000]
  exact ⟨in_y (by omega) (by omega), in_n (by omega) (by omega)⟩
theorem x_isMove (a : Int32) : (nb a 0 9 → F_X10_isMove a = 1) ∧ (¬ nb a 0 9 → F_X10_isMove a = 0) := by
  constructor
  · rintro ⟨j, h1, h2, rfl⟩
    unfold F_X10_isMove
    rw [if_neg (show ¬ nI j < (0 : Int32) from nI_nlt (a := j) (b := 0) h1 (by omega)), if_neg (show ¬ (10 : Int32) ≤ nI j from nI_ge (b := 10) (by omega) (by omega))]
  · intro hn
    unfold F_X10_isMove
    by_cases h0 : a < (0 : Int32)
    · rw [if_pos h0]
    · have h00 : ¬ a < 0 := fun q => h0 (q)
      obtain ⟨j, hj, rfl⟩ := nI_of h00
      have hk : 0 ≤ j := Nat.zero_le j
      have := nb_nat hj (by omega) hn
      rw [if_neg h0, if_pos (show (10 : Int32) ≤ nI j from nI_le (a := 10) (by omega) hj)]

theorem x_isSlot (a : Int32) : (nb a 0 3 → F_X10_isSlot a = 1) ∧ (¬ nb a 0 3 → F_X10_isSlot a = 0) := by
  constructor
  · rintro ⟨j, h1, h2, rfl⟩
    unfold F_X10_isSlot
    rw [if_neg (show ¬ nI j < (0 : Int32) from nI_nlt (a := j) (b := 0) h1 (by omega)), if_neg (show ¬ (4 : Int32) ≤ nI j from nI_ge (b := 4) (by omega) (by omega))]
  · intro hn
    unfold F_X10_isSlot
    by_cases h0 : a < (0 : Int32)
    · rw [if_pos h0]
    · have h00 : ¬ a < 0 := fun q => h0 (q)
      obtain ⟨j, hj, rfl⟩ := nI_of h00
      have hk : 0 ≤ j := Nat.zero_le j
      have := nb_nat hj (by omega) hn
      rw [if_neg h0, if_pos (show (4 : Int32) ≤ nI j from nI_le (a := 4) (by omega) hj)]

theorem x_isImage (a : Int32) : (nb a 0 2 → F_X10_isImage a = 1) ∧ (¬ nb a 0 2 → F_X10_isImage a = 0) := by
  constructor
  · rintro ⟨j, h1, h2, rfl⟩
    unfold F_X10_isImage
    rw [if_neg (show ¬ nI j < (0 : Int32) from nI_nlt (a := j) (b := 0) h1 (by omega)), if_neg (show ¬ (3 : Int32) ≤ nI j from nI_ge (b := 3) (by omega) (by omega))]
  · intro hn
    unfold F_X10_isImage
    by_cases h0 : a < (0 : Int32)
    · rw [if_pos h0]
    · have h00 : ¬ a < 0 := fun q => h0 (q)
      obtain ⟨j, hj, rfl⟩ := nI_of h00
      have hk : 0 ≤ j := Nat.zero_le j
      have := nb_nat hj (by omega) hn
      rw [if_neg h0, if_pos (show (3 : Int32) ≤ nI j from nI_le (a := 3) (by omega) hj)]

theorem x_isView (a : Int32) : (nb a 0 7 → F_X10_isView a = 1) ∧ (¬ nb a 0 7 → F_X10_isView a = 0) := by
  constructor
  · rintro ⟨j, h1, h2, rfl⟩
    unfold F_X10_isView
    rw [if_neg (show ¬ nI j < (0 : Int32) from nI_nlt (a := j) (b := 0) h1 (by omega)), if_neg (show ¬ (7 : Int32) < nI j from nI_nlt (a := 7) (b := j) h2 (by omega))]
  · intro hn
    unfold F_X10_isView
    by_cases h0 : a < (0 : Int32)
    · rw [if_pos h0]
    · have h00 : ¬ a < 0 := fun q => h0 (q)
      obtain ⟨j, hj, rfl⟩ := nI_of h00
      have hk : 0 ≤ j := Nat.zero_le j
      have := nb_nat hj (by omega) hn
      rw [if_neg h0, if_pos (show (7 : Int32) < nI j from nI_lt (a := 7) (by omega) hj)]

theorem x_isSize (a : Int32) : (nb a 1 48 → F_X10_isSize a = 1) ∧ (¬ nb a 1 48 → F_X10_isSize a = 0) := by
  constructor
  · rintro ⟨j, h1, h2, rfl⟩
    unfold F_X10_isSize
    rw [if_neg (show ¬ nI j < (1 : Int32) from nI_nlt (a := j) (b := 1) h1 (by omega)), if_neg (show ¬ (48 : Int32) < nI j from nI_nlt (a := 48) (b := j) h2 (by omega))]
  · intro hn
    unfold F_X10_isSize
    by_cases h0 : a < (1 : Int32)
    · rw [if_pos h0]
    · have h00 : ¬ a < 0 := fun q => h0 ((ng_lt q (k := 1) (by omega)).mpr trivial)
      obtain ⟨j, hj, rfl⟩ := nI_of h00
      have hk : 1 ≤ j := by
        by_cases z : 1 ≤ j
        · exact z
        · exact absurd (nI_lt (a := j) (b := 1) (by omega) (by omega)) h0
      have := nb_nat hj (by omega) hn
      rw [if_neg h0, if_pos (show (48 : Int32) < nI j from nI_lt (a := 48) (by omega) hj)]

theorem x_isWaysLength (a : Int32) : (nb a 0 12 → F_X10_isWaysLength a = 1) ∧ (¬ nb a 0 12 → F_X10_isWaysLength a = 0) := by
  constructor
  · rintro ⟨j, h1, h2, rfl⟩
    unfold F_X10_isWaysLength
    rw [if_neg (show ¬ nI j < (0 : Int32) from nI_nlt (a := j) (b := 0) h1 (by omega)), if_neg (show ¬ (12 : Int32) < nI j from nI_nlt (a := 12) (b := j) h2 (by omega))]
  · intro hn
    unfold F_X10_isWaysLength
    by_cases h0 : a < (0 : Int32)
    · rw [if_pos h0]
    · have h00 : ¬ a < 0 := fun q => h0 (q)
      obtain ⟨j, hj, rfl⟩ := nI_of h00
      have hk : 0 ≤ j := Nat.zero_le j
      have := nb_nat hj (by omega) hn
      rw [if_neg h0, if_pos (show (12 : Int32) < nI j from nI_lt (a := 12) (by omega) hj)]

theorem x_isSeed (a : Int32) : (nb a 0 2000000000 → F_X10_isSeed a = 1) ∧ (¬ nb a 0 2000000000 → F_X10_isSeed a = 0) := by
  constructor
  · rintro ⟨j, h1, h2, rfl⟩
    unfold F_X10_isSeed
    rw [if_neg (show ¬ nI j < (0 : Int32) from nI_nlt (a := j) (b := 0) h1 (by omega)), if_neg (show ¬ (2000000000 : Int32) < nI j from nI_nlt (a := 2000000000) (b := j) h2 (by omega))]
  · intro hn
    unfold F_X10_isSeed
    by_cases h0 : a < (0 : Int32)
    · rw [if_pos h0]
    · have h00 : ¬ a < 0 := fun q => h0 (q)
      obtain ⟨j, hj, rfl⟩ := nI_of h00
      have hk : 0 ≤ j := Nat.zero_le j
      have := nb_nat hj (by omega) hn
      rw [if_neg h0, if_pos (show (2000000000 : Int32) < nI j from nI_lt (a := 2000000000) (by omega) hj)]

theorem nb_01 {a : Int32} (h : nb a 0 1) : a = 0 ∨ a = 1 := by
  obtain ⟨j, -, h2, rfl⟩ := h
  have : j = 0 ∨ j = 1 := by omega
  rcases this with rfl | rfl
  · exact Or.inl rfl
  · exact Or.inr rfl
theorem x_isPart (a : Int32) : (nb a 0 1 → F_X10_isPart a = 1) ∧ (¬ nb a 0 1 → F_X10_isPart a = 0) := by
  constructor
  · intro h
    rcases nb_01 h with rfl | rfl <;> decide
  · intro h
    unfold F_X10_isPart
    rw [if_neg (show ¬ a = (0 : Int32) from fun q => h ⟨0, by omega, by omega, q⟩), if_neg (show ¬ a = (1 : Int32) from fun q => h ⟨1, by omega, by omega, q⟩)]
/-- counts: calls, pairs, piles -/
theorem cnt_y {j c : Nat} (hj : j < c) (hc : c < 1048576) : F_X11_in (nI j).toInt64 (0 : Int64) ((nI c - (1 : Int32)).toInt64) = 1 := by
  rw [lj_0, in_cnat (by omega) hc, if_pos hj]
theorem cnt_n {a : Int32} {c : Nat} (hc : c < 1048576) (h : ¬ ∃ j, j < c ∧ a = nI j) : F_X11_in a.toInt64 (0 : Int64) ((nI c - (1 : Int32)).toInt64) = 0 := by
  rw [lj_0]
  rcases nj_or a with h0 | ⟨j, hj, rfl⟩
  · exact in_cneg h0 hc
  · rw [in_cnat hj hc, if_neg]
    exact fun q => h ⟨j, q, rfl⟩
theorem x_cnt_y {j c : Nat} (hj : j < c) (hc : c < 1048576) : (if nI j < (0 : Int32) then (0 : Int32) else (if nI c ≤ nI j then (0 : Int32) else (1 : Int32))) = 1 := by
  rw [if_neg (nI_pos (by omega)), if_neg (nI_ge hj (by omega))]
theorem x_cnt_n {a : Int32} {c : Nat} (hc : c < 1048576) (h : ¬ ∃ j, j < c ∧ a = nI j) : (if a < (0 : Int32) then (0 : Int32) else (if nI c ≤ a then (0 : Int32) else (1 : Int32))) = 0 := by
  by_cases h0 : a < (0 : Int32)
  · rw [if_pos h0]
  · obtain ⟨j, hj, rfl⟩ := nI_of h0
    rw [if_neg h0, if_pos]
    apply nI_le _ hj
    by_cases q : c ≤ j
    · exact q
    · exact absurd ⟨j, by omega, rfl⟩ h
/-- is there a linen -/
theorem ln_0 {h : xm_H} {t : Nat} (hl : h.1 t 0 = h.1 83 22) (h0 : h.1 83 22 = 0) : F_X9_isNone h t = 1 ∧ F_X11_isLinen h t = 0 := by
  constructor
  · unfold F_X9_isNone
    rw [hl, h0, if_pos rfl]
  · unfold F_X11_isLinen
    rw [h0, if_pos (by decide)]
theorem ln_1 {h : xm_H} {t : Nat} (hl : h.1 t 0 = h.1 83 22) (hi : rl_in (h.1 83 22) 0 1000) (h0 : ¬ h.1 83 22 = 0) : F_X9_isNone h t = 0 ∧ F_X11_isLinen h t = 1 := by
  obtain ⟨n, -, hn, e⟩ := hi
  constructor
  · unfold F_X9_isNone
    rw [hl, if_neg h0]
  · unfold F_X11_isLinen
    rw [if_neg]
    rw [e] at h0 ⊢
    by_cases z : n = 0
    · subst z
      exact absurd rfl h0
    · exact nI_nle (by omega) (by omega)
end OPS
