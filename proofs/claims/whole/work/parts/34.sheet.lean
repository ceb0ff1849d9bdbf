/-! The sheet: what an act does to a state; the class's and the reference's forms of it. -/
abbrev St : Type := Nat × Nat × Nat × Nat × Nat
def st_K (s : St) : Prop := (1 ≤ s.1 ∧ s.1 ≤ 48) ∧ (1 ≤ s.2.1 ∧ s.2.1 ≤ 48) ∧ s.2.2.1 < 5 ∧ s.2.2.2.1 < 2 ∧ s.2.2.2.2 < 5
theorem st_K.ok {s : St} (h : st_K s) : st_ok s.1 s.2.1 s.2.2.1 s.2.2.2.1 s.2.2.2.2 := by
  obtain ⟨⟨-, h1⟩, ⟨-, h2⟩, h3, h4, h5⟩ := h
  exact ⟨by omega, by omega, h3, h4, h5⟩
def st_P (s : St) : Int32 := nI (st_pk s.1 s.2.1 s.2.2.1 s.2.2.2.1 s.2.2.2.2)
def st_M (s : St) : Int32 := nI (st_md s.1 s.2.1 s.2.2.1 s.2.2.2.1 s.2.2.2.2)
def hemT : List Nat := [1, 1, 2, 3, 4, 0, 0, 2, 3, 4, 4, 4, 2, 3, 4, 0, 1, 3, 3, 4, 0, 1, 2, 2, 4, 0, 1, 4, 4, 4, 1, 0, 2, 3, 4, 1, 0, 3, 2, 4, 3, 2, 0, 1, 4]
def hemB (a e : Nat) : Nat := if a ≤ 8 then hemT.getD (a * 5 + e) 0 else e
def faceB (a f : Nat) : Nat := if a = 0 ∨ a = 2 ∨ a = 3 ∨ a = 5 ∨ a = 6 then 1 - f else f
/-- what an act (a move 0 .. 9, a twist more 10, less 11, nothing 12) does in a room; none: it can't be -/
def st_do (room a : Nat) (s : St) : Option St :=
  if a = 12 then some s
  else if a = 9 then (if s.2.2.2.2 = 2 then none else some (s.1, s.2.1, s.2.2.1, s.2.2.2.1, if 2 < s.2.2.2.2 then s.2.2.2.2 - 1 else s.2.2.2.2 + 1))
  else if a = 8 then (if s.2.2.2.2 = 2 ∧ s.2.1 ≤ room then some (s.2.1, s.1, hemB 8 s.2.2.1, s.2.2.2.1, 2) else none)
  else if a = 10 then (if s.1 ≤ room ∧ s.2.1 % 2 = 0 ∧ s.2.2.2.2 < 4 then some (s.1, s.2.1, s.2.2.1, s.2.2.2.1, s.2.2.2.2 + 1) else none)
  else if a = 11 then (if s.1 ≤ room ∧ s.2.1 % 2 = 0 ∧ 0 < s.2.2.2.2 then some (s.1, s.2.1, s.2.2.1, s.2.2.2.1, s.2.2.2.2 - 1) else none)
  else if s.2.2.2.2 = 2 ∧ s.1 ≤ room then
    (if a = 0 ∨ a = 1 then (if s.2.1 % 2 = 0 then some (s.1, s.2.1 / 2, hemB a s.2.2.1, faceB a s.2.2.2.1, 2) else none)
    else if a = 2 then (if s.2.1 % 3 = 0 then some (s.1, s.2.1 / 3, hemB a s.2.2.1, faceB a s.2.2.2.1, 2) else none)
    else if a = 3 ∨ a = 4 ∨ a = 5 then (if s.1 % 2 = 0 then some (s.1 / 2, s.2.1, hemB a s.2.2.1, faceB a s.2.2.2.1, 2) else none)
    else some (s.1, s.2.1, hemB a s.2.2.1, faceB a s.2.2.2.1, 2))
  else none
theorem hemB_lt : ∀ a, a < 9 → ∀ e, e < 5 → hemB a e < 5 := by decide
theorem faceB_lt {a f : Nat} (h : f < 2) : faceB a f < 2 := by unfold faceB; split <;> omega
theorem st_do_K {room a : Nat} {s s' : St} (h : st_K s) (hd : st_do room a s = some s') (ha : a ≤ 12) : st_K s' := by
  obtain ⟨l, w, e, f, z⟩ := s
  obtain ⟨⟨l1, l2⟩, ⟨w1, w2⟩, he, hf, hz⟩ := h
  simp only at l1 l2 w1 w2 he hf hz
  have hb : ∀ a, a < 9 → hemB a e < 5 := fun a ha => hemB_lt a ha e he
  have hfb : ∀ a, faceB a f < 2 := fun a => faceB_lt hf
  unfold st_do at hd
  simp only at hd
  repeat' split at hd
  all_goals first | cases hd | skip
  all_goals (refine ⟨⟨?_, ?_⟩, ⟨?_, ?_⟩, ?_, ?_, ?_⟩ <;> simp only <;> first | omega | exact hb _ (by omega) | exact hfb _ | (split <;> omega))
/-! the class -/
theorem cx_long {s : St} (h : st_K s) : F_X5_longOf (st_P s) = nI s.1 := st_long h.ok
theorem cx_wide {s : St} (h : st_K s) : F_X5_wideOf (st_P s) = nI s.2.1 := st_wide h.ok
theorem cx_hem {s : St} (h : st_K s) : F_X5_hemOf (st_P s) = nI s.2.2.1 := st_hem h.ok
theorem cx_face {s : St} (h : st_K s) : F_X5_faceOf (st_P s) = nI s.2.2.2.1 := st_face h.ok
theorem cx_twist {s : St} (h : st_K s) : F_X5_twistOf (st_P s) = nI s.2.2.2.2 - 2 := by
  unfold F_X5_twistOf st_P
  rw [st_twist h.ok]
theorem cx_pack {s : St} (h : st_K s) {x : Int32} (hx : x + 2 = nI s.2.2.2.2) : F_X5_pack (nI s.1) (nI s.2.1) (nI s.2.2.1) (nI s.2.2.2.1) x = st_P s := by
  unfold F_X5_pack
  rw [hx]
  exact st_pack h.ok
/-! the reference -/
theorem cm_long {s : St} (h : st_K s) : F_X11_longOf (st_M s) = nI s.1 := st_mlong h.ok
theorem cm_wide {s : St} (h : st_K s) : F_X11_wideOf (st_M s) = nI s.2.1 := st_mwide h.ok
theorem cm_hem {s : St} (h : st_K s) : F_X11_hemOf (st_M s) = nI s.2.2.1 := st_mhem h.ok
theorem cm_face {s : St} (h : st_K s) : F_X11_faceOf (st_M s) = nI s.2.2.2.1 := st_mface h.ok
theorem cm_twist {s : St} (h : st_K s) : F_X11_twistOf (st_M s) = nI s.2.2.2.2 - 2 := by
  unfold F_X11_twistOf st_M
  rw [st_mtwist h.ok]
theorem cm_state {s : St} {x : Int32} (hx : x + 2 = nI s.2.2.2.2) : F_X11_state (nI s.1) (nI s.2.1) (nI s.2.2.1) (nI s.2.2.2.1) x = st_M s := by
  unfold F_X11_state
  rw [Int32.add_assoc, hx]
  rw [show (49 : Int32) = nI 49 from rfl, show (5 : Int32) = nI 5 from rfl, show (2 : Int32) = nI 2 from rfl]
  simp only [nm_mul, nI_add]
  rfl
theorem tw_eq {z : Nat} (h : z < 5) : nI z - 2 = 0 ↔ z = 2 := by
  have : z = 0 ∨ z = 1 ∨ z = 2 ∨ z = 3 ∨ z = 4 := by omega
  rcases this with rfl | rfl | rfl | rfl | rfl <;> decide
theorem tw_ge {z : Nat} (h : z < 5) : (2 : Int32) ≤ nI z - 2 ↔ z = 4 := by
  have : z = 0 ∨ z = 1 ∨ z = 2 ∨ z = 3 ∨ z = 4 := by omega
  rcases this with rfl | rfl | rfl | rfl | rfl <;> decide
theorem tw_le {z : Nat} (h : z < 5) : nI z - 2 ≤ (-2 : Int32) ↔ z = 0 := by
  have : z = 0 ∨ z = 1 ∨ z = 2 ∨ z = 3 ∨ z = 4 := by omega
  rcases this with rfl | rfl | rfl | rfl | rfl <;> decide
theorem tw_le0 {z : Nat} (h : z < 5) : nI z - 2 ≤ (0 : Int32) ↔ z ≤ 2 := by
  have : z = 0 ∨ z = 1 ∨ z = 2 ∨ z = 3 ∨ z = 4 := by omega
  rcases this with rfl | rfl | rfl | rfl | rfl <;> decide
theorem rem_2 {w : Nat} (h : w < 2 ^ 20) : nI w - nI w / (2 : Int32) * (2 : Int32) = 0 ↔ w % 2 = 0 := by
  rw [show (2 : Int32) = nI 2 from rfl, nm_rem (by omega) (by omega), show (0 : Int32) = nI 0 from rfl, nI_eq (by omega) (by omega)]
theorem rem_3 {w : Nat} (h : w < 2 ^ 20) : nI w - nI w / (3 : Int32) * (3 : Int32) = 0 ↔ w % 3 = 0 := by
  rw [show (3 : Int32) = nI 3 from rfl, nm_rem (by omega) (by omega), show (0 : Int32) = nI 0 from rfl, nI_eq (by omega) (by omega)]
theorem one_ne0 : ¬ (1 : Int32) = 0 := by decide
set_option maxHeartbeats 4000000 in
theorem cx_possible {s : St} {room a : Nat} (h : st_K s) (ha : a ≤ 12) (hr : room < 2 ^ 20) : F_X5_possible (st_P s) (nI a) (nI room) = if (st_do room a s).isSome = true then 1 else 0 := by
  unfold F_X5_possible F_X5_divides
  rw [cx_long h, cx_wide h, cx_twist h]
  obtain ⟨l, w, e, f, z⟩ := s
  obtain ⟨⟨l1, l2⟩, ⟨w1, w2⟩, he, hf, hz⟩ := h
  simp only at l1 l2 w1 w2 he hf hz ⊢
  have hA : ∀ k, k < 100 → (nI a = nI k ↔ a = k) := fun k hk => nI_eq (by omega) (by omega)
  have e0 : nI a = (0 : Int32) ↔ a = 0 := hA 0 (by omega)
  have e1 : nI a = (1 : Int32) ↔ a = 1 := hA 1 (by omega)
  have e2 : nI a = (2 : Int32) ↔ a = 2 := hA 2 (by omega)
  have e3 : nI a = (3 : Int32) ↔ a = 3 := hA 3 (by omega)
  have e4 : nI a = (4 : Int32) ↔ a = 4 := hA 4 (by omega)
  have e5 : nI a = (5 : Int32) ↔ a = 5 := hA 5 (by omega)
  have e6 : nI a = (6 : Int32) ↔ a = 6 := hA 6 (by omega)
  have e7 : nI a = (7 : Int32) ↔ a = 7 := hA 7 (by omega)
  have e8 : nI a = (8 : Int32) ↔ a = 8 := hA 8 (by omega)
  have e9 : nI a = (9 : Int32) ↔ a = 9 := hA 9 (by omega)
  have e10 : nI a = (10 : Int32) ↔ a = 10 := hA 10 (by omega)
  have e11 : nI a = (11 : Int32) ↔ a = 11 := hA 11 (by omega)
  have e12 : nI a = (12 : Int32) ↔ a = 12 := hA 12 (by omega)
  have q1 : nI room < nI w ↔ room < w := nI_ltI (by omega) (by omega)
  have q2 : nI room < nI l ↔ room < l := nI_ltI (by omega) (by omega)
  simp only [e0, e1, e2, e3, e4, e5, e6, e7, e8, e9, e10, e11, e12, q1, q2, tw_eq hz, tw_ge hz, tw_le hz, rem_2 (w := w) (by omega), rem_3 (w := w) (by omega), rem_2 (w := l) (by omega)]
  unfold st_do
  simp only
  have ha' : a = 0 ∨ a = 1 ∨ a = 2 ∨ a = 3 ∨ a = 4 ∨ a = 5 ∨ a = 6 ∨ a = 7 ∨ a = 8 ∨ a = 9 ∨ a = 10 ∨ a = 11 ∨ a = 12 := by omega
  rcases ha' with rfl | rfl | rfl | rfl | rfl | rfl | rfl | rfl | rfl | rfl | rfl | rfl | rfl
  all_goals simp (decide := true) only [if_true, if_false]
  all_goals (repeat' split)
  all_goals first | rfl | (exfalso; omega) | (simp_all; done) | (simp_all; omega)
