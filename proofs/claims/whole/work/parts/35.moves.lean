/-! What an act does: the class's folded, the reference's moved and done. -/
theorem cm_st2 {x1 x2 x3 x4 x5 : Int32} {l w e f z : Nat} (h1 : x1 = nI l) (h2 : x2 = nI w) (h3 : x3 = nI e) (h4 : x4 = nI f) (h5 : x5 + 2 = nI z) : F_X11_state x1 x2 x3 x4 x5 = st_M (l, w, e, f, z) := by
  subst h1; subst h2; subst h3; subst h4
  exact cm_state (s := (l, w, e, f, z)) h5
theorem cx_st2 {x1 x2 x3 x4 x5 : Int32} {s : St} (hs : st_K s) (h1 : x1 = nI s.1) (h2 : x2 = nI s.2.1) (h3 : x3 = nI s.2.2.1) (h4 : x4 = nI s.2.2.2.1) (h5 : x5 + 2 = nI s.2.2.2.2) : F_X5_pack x1 x2 x3 x4 x5 = st_P s := by
  subst h1; subst h2; subst h3; subst h4
  exact cx_pack hs h5
theorem cx_hemB : ∀ a, a < 13 → ∀ e, e < 5 → F_X5_hemBehind (nI e) (nI a) = nI (hemB a e) := by decide +kernel
theorem cx_faceB : ∀ a, a < 13 → ∀ f, f < 2 → ((((109 : Int32) >>> (nI a &&& 31)) &&& (1 : Int32)) ^^^ nI f) = nI (faceB a f) := by decide +kernel
theorem tw_add {z : Nat} : nI z - 2 + 2 = nI z := Int32.sub_add_cancel _ _
theorem dv_2 {w : Nat} (h : w < 2 ^ 20) : nI w / (2 : Int32) = nI (w / 2) := nm_div (b := 2) (by omega) (by omega)
theorem dv_3 {w : Nat} (h : w < 2 ^ 20) : nI w / (3 : Int32) = nI (w / 3) := nm_div (b := 3) (by omega) (by omega)
theorem tw_up : ∀ z, z < 5 → nI z - 2 + (1 : Int32) + 2 = nI (z + 1) := by decide +kernel
theorem tw_dn : ∀ z, z < 5 → 0 < z → nI z - 2 + (-1 : Int32) + 2 = nI (z - 1) := by decide +kernel
theorem tw_dn2 : ∀ z, z < 5 → 0 < z → nI z - 2 - (1 : Int32) + 2 = nI (z - 1) := by decide +kernel
theorem ite01 {c : Prop} [Decidable c] : ((if c then (0 : Int32) else 1) = 0) ↔ c := by
  by_cases h : c
  · rw [if_pos h]; exact ⟨fun _ => h, fun _ => rfl⟩
  · rw [if_neg h]; exact ⟨fun q => absurd q (by decide), fun q => absurd q h⟩
theorem hb0 : ∀ e, e < 5 → (nI e = 0 → (1 : Int32) = nI (hemB 0 e)) ∧ (¬ nI e = 0 → nI e = nI (hemB 0 e)) := by decide +kernel
theorem hb1 : ∀ e, e < 5 → (nI e = 1 → (0 : Int32) = nI (hemB 1 e)) ∧ (¬ nI e = 1 → nI e = nI (hemB 1 e)) := by decide +kernel
theorem hb2 : ∀ e, e < 5 → (nI e = 0 → (4 : Int32) = nI (hemB 2 e)) ∧ (nI e = 1 → (4 : Int32) = nI (hemB 2 e)) ∧ (¬ nI e = 0 → ¬ nI e = 1 → nI e = nI (hemB 2 e)) := by decide +kernel
theorem hb3 : ∀ e, e < 5 → (nI e = 2 → (3 : Int32) = nI (hemB 3 e)) ∧ (¬ nI e = 2 → nI e = nI (hemB 3 e)) := by decide +kernel
theorem hb4 : ∀ e, e < 5 → (nI e = 3 → (2 : Int32) = nI (hemB 4 e)) ∧ (¬ nI e = 3 → nI e = nI (hemB 4 e)) := by decide +kernel
theorem hb5 : ∀ e, e < 5 → (nI e = 2 → (4 : Int32) = nI (hemB 5 e)) ∧ (nI e = 3 → (4 : Int32) = nI (hemB 5 e)) ∧ (¬ nI e = 2 → ¬ nI e = 3 → nI e = nI (hemB 5 e)) := by decide +kernel
theorem hb6 : ∀ e, e < 5 → F_X11_trade (nI e) 0 1 = nI (hemB 6 e) := by decide +kernel
theorem hb7 : ∀ e, e < 5 → F_X11_trade (F_X11_trade (nI e) 0 1) 2 3 = nI (hemB 7 e) := by decide +kernel
theorem hb8 : ∀ e, e < 5 → F_X11_round (nI e) = nI (hemB 8 e) := by decide +kernel
theorem fb1 : ∀ a, a < 9 → ∀ f, f < 2 → (a = 0 ∨ a = 2 ∨ a = 3 ∨ a = 5 ∨ a = 6) → (1 : Int32) - nI f = nI (faceB a f) := by decide +kernel
theorem fb0 : ∀ a, a < 9 → ∀ f, f < 2 → (a = 1 ∨ a = 4 ∨ a = 7 ∨ a = 8) → nI f = nI (faceB a f) := by decide +kernel
theorem tw00 : (0 : Int32) + 2 = nI 2 := by decide
theorem tw22 {z : Nat} (h : z = 2) : nI z - 2 + 2 = nI 2 := by rw [h]; decide
set_option maxHeartbeats 4000000 in
theorem cx_folded {s s' : St} {room a : Nat} (h : st_K s) (ha : a ≤ 12) (hd : st_do room a s = some s') : F_X5_folded (st_P s) (nI a) = st_P s' := by
  have hK := st_do_K h hd ha
  unfold F_X5_folded
  rw [cx_long h, cx_wide h, cx_twist h, cx_hem h, cx_face h]
  obtain ⟨l, w, e, f, z⟩ := s
  obtain ⟨⟨l1, l2⟩, ⟨w1, w2⟩, he, hf, hz⟩ := h
  simp only at l1 l2 w1 w2 he hf hz ⊢
  rw [cx_hemB a (by omega) e he, cx_faceB a (by omega) f hf]
  have hA : ∀ k, k < 100 → (nI a = nI k ↔ a = k) := fun k hk => nI_eq (by omega) (by omega)
  have e0 : nI a = (0 : Int32) ↔ a = 0 := hA 0 (by omega)
  have e1 : nI a = (1 : Int32) ↔ a = 1 := hA 1 (by omega)
  have e2 : nI a = (2 : Int32) ↔ a = 2 := hA 2 (by omega)
  have e3 : nI a = (3 : Int32) ↔ a = 3 := hA 3 (by omega)
  have e4 : nI a = (4 : Int32) ↔ a = 4 := hA 4 (by omega)
  have e5 : nI a = (5 : Int32) ↔ a = 5 := hA 5 (by omega)
  have e6 : nI a = (6 : Int32) ↔ a = 6 := hA 6 (by omega)
  have e7 : nI a = (7 : Int32) ↔ a = 7 := hA 7 (by omega)
  have e8 : nI a = (8 : Int32) ↔ a = 8 := hA 8 (by omega)
  have e9 : nI a = (9 : Int32) ↔ a = 9 := hA 9 (by omega)
  have e10 : nI a = (10 : Int32) ↔ a = 10 := hA 10 (by omega)
  have e11 : nI a = (11 : Int32) ↔ a = 11 := hA 11 (by omega)
  simp only [e0, e1, e2, e3, e4, e5, e6, e7, e8, e9, e10, e11, tw_le0 hz, dv_2 (w := w) (by omega), dv_3 (w := w) (by omega), dv_2 (w := l) (by omega)]
  unfold st_do at hd
  simp only at hd
  have ha' : a = 0 ∨ a = 1 ∨ a = 2 ∨ a = 3 ∨ a = 4 ∨ a = 5 ∨ a = 6 ∨ a = 7 ∨ a = 8 ∨ a = 9 ∨ a = 10 ∨ a = 11 ∨ a = 12 := by omega
  clear hA e0 e1 e2 e3 e4 e5 e6 e7 e8 e9 e10 e11
  rcases ha' with rfl | rfl | rfl | rfl | rfl | rfl | rfl | rfl | rfl | rfl | rfl | rfl | rfl
  · simp (decide := true) only [if_true, if_false] at hd ⊢
    repeat' split at hd
    all_goals first | cases hd | skip
    exact cx_st2 hK rfl rfl rfl rfl (tw22 (by omega))
  · simp (decide := true) only [if_true, if_false] at hd ⊢
    repeat' split at hd
    all_goals first | cases hd | skip
    exact cx_st2 hK rfl rfl rfl rfl (tw22 (by omega))
  · simp (decide := true) only [if_true, if_false] at hd ⊢
    repeat' split at hd
    all_goals first | cases hd | skip
    exact cx_st2 hK rfl rfl rfl rfl (tw22 (by omega))
  · simp (decide := true) only [if_true, if_false] at hd ⊢
    repeat' split at hd
    all_goals first | cases hd | skip
    exact cx_st2 hK rfl rfl rfl rfl (tw22 (by omega))
  · simp (decide := true) only [if_true, if_false] at hd ⊢
    repeat' split at hd
    all_goals first | cases hd | skip
    exact cx_st2 hK rfl rfl rfl rfl (tw22 (by omega))
  · simp (decide := true) only [if_true, if_false] at hd ⊢
    repeat' split at hd
    all_goals first | cases hd | skip
    exact cx_st2 hK rfl rfl rfl rfl (tw22 (by omega))
  · simp (decide := true) only [if_true, if_false] at hd ⊢
    repeat' split at hd
    all_goals first | cases hd | skip
    exact cx_st2 hK rfl rfl rfl rfl (tw22 (by omega))
  · simp (decide := true) only [if_true, if_false] at hd ⊢
    repeat' split at hd
    all_goals first | cases hd | skip
    exact cx_st2 hK rfl rfl rfl rfl (tw22 (by omega))
  · simp (decide := true) only [if_true, if_false] at hd ⊢
    repeat' split at hd
    all_goals first | cases hd | skip
    exact cx_st2 hK rfl rfl rfl rfl (tw22 (by omega))
  · simp (decide := true) only [if_true, if_false] at hd ⊢
    repeat' split at hd
    all_goals first | cases hd | skip
    · split
      · exfalso; omega
      · exact cx_st2 hK rfl rfl rfl rfl (tw_dn z hz (by omega))
    · split
      · exact cx_st2 hK rfl rfl rfl rfl (tw_up z hz)
      · exfalso; omega
  · simp (decide := true) only [if_true, if_false] at hd ⊢
    repeat' split at hd
    all_goals first | cases hd | skip
    exact cx_st2 hK rfl rfl rfl rfl (tw_up z hz)
  · simp (decide := true) only [if_true, if_false] at hd ⊢
    repeat' split at hd
    all_goals first | cases hd | skip
    exact cx_st2 hK rfl rfl rfl rfl (tw_dn z hz (by omega))
  · simp (decide := true) only [if_true, if_false] at hd ⊢
    cases hd
    exact cx_st2 hK rfl rfl rfl rfl tw_add
set_option maxHeartbeats 4000000 in
theorem cm_moved {hp : xm_H} {t : Nat} {s s' : St} {room a : Nat} (h : st_K s) (ha : a ≤ 9) (hal : hp.1 82 16 = 0) (hro : hp.1 82 15 = nI room) (hr : room < 2 ^ 20) (hd : st_do room a s = some s') : F_X11_moved hp t (st_M s) (nI a) = st_M s' := by
  unfold F_X11_moved F_X11_fitsIn
  rw [cm_long h, cm_wide h, cm_twist h, cm_hem h, cm_face h, hal, hro]
  obtain ⟨l, w, e, f, z⟩ := s
  obtain ⟨⟨l1, l2⟩, ⟨w1, w2⟩, he, hf, hz⟩ := h
  simp only at l1 l2 w1 w2 he hf hz ⊢
  have hA : ∀ k, k < 100 → (nI a = nI k ↔ a = k) := fun k hk => nI_eq (by omega) (by omega)
  have e0 : nI a = (0 : Int32) ↔ a = 0 := hA 0 (by omega)
  have e1 : nI a = (1 : Int32) ↔ a = 1 := hA 1 (by omega)
  have e2 : nI a = (2 : Int32) ↔ a = 2 := hA 2 (by omega)
  have e3 : nI a = (3 : Int32) ↔ a = 3 := hA 3 (by omega)
  have e4 : nI a = (4 : Int32) ↔ a = 4 := hA 4 (by omega)
  have e5 : nI a = (5 : Int32) ↔ a = 5 := hA 5 (by omega)
  have e6 : nI a = (6 : Int32) ↔ a = 6 := hA 6 (by omega)
  have e7 : nI a = (7 : Int32) ↔ a = 7 := hA 7 (by omega)
  have e8 : nI a = (8 : Int32) ↔ a = 8 := hA 8 (by omega)
  have e9 : nI a = (9 : Int32) ↔ a = 9 := hA 9 (by omega)
  have q1 : nI room < nI w ↔ room < w := nI_ltI (by omega) (by omega)
  have q2 : nI room < nI l ↔ room < l := nI_ltI (by omega) (by omega)
  simp only [e0, e1, e2, e3, e4, e5, e6, e7, e8, e9, q1, q2, tw_eq hz, tw_le0 hz, rem_2 (w := w) (by omega), rem_3 (w := w) (by omega), rem_2 (w := l) (by omega), if_true]
  simp only [dv_2 (w := w) (by omega), dv_3 (w := w) (by omega), dv_2 (w := l) (by omega)]
  unfold st_do at hd
  simp only at hd
  have ha' : a = 0 ∨ a = 1 ∨ a = 2 ∨ a = 3 ∨ a = 4 ∨ a = 5 ∨ a = 6 ∨ a = 7 ∨ a = 8 ∨ a = 9 := by omega
  clear hA q1 q2 hal hro e0 e1 e2 e3 e4 e5 e6 e7 e8 e9
  rcases ha' with rfl | rfl | rfl | rfl | rfl | rfl | rfl | rfl | rfl | rfl
  · simp (decide := true) only [if_true, if_false, ite01] at hd ⊢
    repeat' split at hd
    all_goals first | cases hd | skip
    all_goals (repeat' split)
    all_goals first | (exfalso; omega) | exact cm_st2 rfl rfl ((hb0 e he).1 (by assumption)) (fb1 0 (by decide) f hf (by decide)) tw00 | exact cm_st2 rfl rfl ((hb0 e he).2 (by assumption)) (fb1 0 (by decide) f hf (by decide)) tw00
  · simp (decide := true) only [if_true, if_false, ite01] at hd ⊢
    repeat' split at hd
    all_goals first | cases hd | skip
    all_goals (repeat' split)
    all_goals first | (exfalso; omega) | exact cm_st2 rfl rfl ((hb1 e he).1 (by assumption)) (fb0 1 (by decide) f hf (by decide)) tw00 | exact cm_st2 rfl rfl ((hb1 e he).2 (by assumption)) (fb0 1 (by decide) f hf (by decide)) tw00
  · simp (decide := true) only [if_true, if_false, ite01] at hd ⊢
    repeat' split at hd
    all_goals first | cases hd | skip
    all_goals (repeat' split)
    all_goals first | (exfalso; omega) | exact cm_st2 rfl rfl ((hb2 e he).1 (by assumption)) (fb1 2 (by decide) f hf (by decide)) tw00 | exact cm_st2 rfl rfl ((hb2 e he).2.1 (by assumption)) (fb1 2 (by decide) f hf (by decide)) tw00 | exact cm_st2 rfl rfl ((hb2 e he).2.2 (by assumption) (by assumption)) (fb1 2 (by decide) f hf (by decide)) tw00
  · simp (decide := true) only [if_true, if_false, ite01] at hd ⊢
    repeat' split at hd
    all_goals first | cases hd | skip
    all_goals (repeat' split)
    all_goals first | (exfalso; omega) | exact cm_st2 rfl rfl ((hb3 e he).1 (by assumption)) (fb1 3 (by decide) f hf (by decide)) tw00 | exact cm_st2 rfl rfl ((hb3 e he).2 (by assumption)) (fb1 3 (by decide) f hf (by decide)) tw00
  · simp (decide := true) only [if_true, if_false, ite01] at hd ⊢
    repeat' split at hd
    all_goals first | cases hd | skip
    all_goals (repeat' split)
    all_goals first | (exfalso; omega) | exact cm_st2 rfl rfl ((hb4 e he).1 (by assumption)) (fb0 4 (by decide) f hf (by decide)) tw00 | exact cm_st2 rfl rfl ((hb4 e he).2 (by assumption)) (fb0 4 (by decide) f hf (by decide)) tw00
  · simp (decide := true) only [if_true, if_false, ite01] at hd ⊢
    repeat' split at hd
    all_goals first | cases hd | skip
    all_goals (repeat' split)
    all_goals first | (exfalso; omega) | exact cm_st2 rfl rfl ((hb5 e he).1 (by assumption)) (fb1 5 (by decide) f hf (by decide)) tw00 | exact cm_st2 rfl rfl ((hb5 e he).2.1 (by assumption)) (fb1 5 (by decide) f hf (by decide)) tw00 | exact cm_st2 rfl rfl ((hb5 e he).2.2 (by assumption) (by assumption)) (fb1 5 (by decide) f hf (by decide)) tw00
  · simp (decide := true) only [if_true, if_false, ite01] at hd ⊢
    repeat' split at hd
    all_goals first | cases hd | skip
    all_goals (repeat' split)
    all_goals first | (exfalso; omega) | exact cm_st2 rfl rfl (hb6 e he) (fb1 6 (by decide) f hf (by decide)) tw00
  · simp (decide := true) only [if_true, if_false, ite01] at hd ⊢
    repeat' split at hd
    all_goals first | cases hd | skip
    all_goals (repeat' split)
    all_goals first | (exfalso; omega) | exact cm_st2 rfl rfl (hb7 e he) (fb0 7 (by decide) f hf (by decide)) tw00
  · simp (decide := true) only [if_true, if_false, ite01] at hd ⊢
    repeat' split at hd
    all_goals first | cases hd | skip
    all_goals (repeat' split)
    all_goals first | (exfalso; omega) | exact cm_st2 rfl rfl (hb8 e he) rfl tw00
  · simp (decide := true) only [if_true, if_false, ite01] at hd ⊢
    repeat' split at hd
    all_goals first | cases hd | skip
    all_goals (repeat' split)
    all_goals first | (exfalso; omega) | exact cm_st2 rfl rfl rfl rfl (tw_up z hz) | exact cm_st2 rfl rfl rfl rfl (tw_dn2 z hz (by omega))
set_option maxHeartbeats 4000000 in
theorem cm_movedN {hp : xm_H} {t : Nat} {s : St} {room a : Nat} (h : st_K s) (ha : a ≤ 9) (hal : hp.1 82 16 = 0) (hro : hp.1 82 15 = nI room) (hr : room < 2 ^ 20) (hd : st_do room a s = none) : F_X11_moved hp t (st_M s) (nI a) = -1 := by
  unfold F_X11_moved F_X11_fitsIn
  rw [cm_long h, cm_wide h, cm_twist h, cm_hem h, cm_face h, hal, hro]
  obtain ⟨l, w, e, f, z⟩ := s
  obtain ⟨⟨l1, l2⟩, ⟨w1, w2⟩, he, hf, hz⟩ := h
  simp only at l1 l2 w1 w2 he hf hz ⊢
  have hA : ∀ k, k < 100 → (nI a = nI k ↔ a = k) := fun k hk => nI_eq (by omega) (by omega)
  have e0 : nI a = (0 : Int32) ↔ a = 0 := hA 0 (by omega)
  have e1 : nI a = (1 : Int32) ↔ a = 1 := hA 1 (by omega)
  have e2 : nI a = (2 : Int32) ↔ a = 2 := hA 2 (by omega)
  have e3 : nI a = (3 : Int32) ↔ a = 3 := hA 3 (by omega)
  have e4 : nI a = (4 : Int32) ↔ a = 4 := hA 4 (by omega)
  have e5 : nI a = (5 : Int32) ↔ a = 5 := hA 5 (by omega)
  have e6 : nI a = (6 : Int32) ↔ a = 6 := hA 6 (by omega)
  have e7 : nI a = (7 : Int32) ↔ a = 7 := hA 7 (by omega)
  have e8 : nI a = (8 : Int32) ↔ a = 8 := hA 8 (by omega)
  have e9 : nI a = (9 : Int32) ↔ a = 9 := hA 9 (by omega)
  have q1 : nI room < nI w ↔ room < w := nI_ltI (by omega) (by omega)
  have q2 : nI room < nI l ↔ room < l := nI_ltI (by omega) (by omega)
  simp only [e0, e1, e2, e3, e4, e5, e6, e7, e8, e9, q1, q2, tw_eq hz, tw_le0 hz, rem_2 (w := w) (by omega), rem_3 (w := w) (by omega), rem_2 (w := l) (by omega), if_true]
  unfold st_do at hd
  simp only at hd
  have ha' : a = 0 ∨ a = 1 ∨ a = 2 ∨ a = 3 ∨ a = 4 ∨ a = 5 ∨ a = 6 ∨ a = 7 ∨ a = 8 ∨ a = 9 := by omega
  clear hA q1 q2 hal hro e0 e1 e2 e3 e4 e5 e6 e7 e8 e9
  rcases ha' with rfl | rfl | rfl | rfl | rfl | rfl | rfl | rfl | rfl | rfl
  all_goals simp (decide := true) only [if_true, if_false, ite01] at hd ⊢
  all_goals (repeat' split at hd)
  all_goals first | cases hd | skip
  all_goals (repeat' split)
  all_goals first | (exfalso; omega) | rfl
theorem in_tw : ∀ z, z < 5 → (F_X11_in ((nI z - 2 + (1 : Int32)).toInt64) (-2 : Int64) (2 : Int64) = 0 ↔ ¬ z < 4) ∧ (F_X11_in ((nI z - 2 + (-1 : Int32)).toInt64) (-2 : Int64) (2 : Int64) = 0 ↔ ¬ 0 < z) := by decide +kernel
/-- the reference's done: acts 0 .. 12 -/
theorem cm_done {hp : xm_H} {t : Nat} {s : St} {room a : Nat} (h : st_K s) (ha : a ≤ 12) (hal : hp.1 82 16 = 0) (hro : hp.1 82 15 = nI room) (hr : room < 2 ^ 20) : (∀ s', st_do room a s = some s' → F_X11_done hp t (st_M s) (nI a) = st_M s') ∧ (st_do room a s = none → F_X11_done hp t (st_M s) (nI a) = -1) := by
  unfold F_X11_done
  have hA : ∀ k, k < 100 → (nI a = nI k ↔ a = k) := fun k hk => nI_eq (by omega) (by omega)
  have e10 : nI a = (10 : Int32) ↔ a = 10 := hA 10 (by omega)
  have e12 : nI a = (12 : Int32) ↔ a = 12 := hA 12 (by omega)
  have g10 : (10 : Int32) ≤ nI a ↔ 10 ≤ a := nI_leI (a := 10) (by omega) (by omega)
  by_cases h9 : a ≤ 9
  · rw [if_neg (by rw [e12]; omega), if_neg (by rw [g10]; omega)]
    exact ⟨fun s' hd => cm_moved h h9 hal hro hr hd, fun hd => cm_movedN h h9 hal hro hr hd⟩
  · rw [cm_long h, cm_wide h, cm_twist h, cm_hem h, cm_face h, hro]
    obtain ⟨l, w, e, f, z⟩ := s
    obtain ⟨⟨l1, l2⟩, ⟨w1, w2⟩, he, hf, hz⟩ := h
    simp only at l1 l2 w1 w2 he hf hz ⊢
    have q2 : nI room < nI l ↔ room < l := nI_ltI (by omega) (by omega)
    simp only [e10, e12, g10, q2, rem_2 (w := w) (by omega), (in_tw z hz).1, (in_tw z hz).2]
    unfold st_do
    simp only
    have ha' : a = 10 ∨ a = 11 ∨ a = 12 := by omega
    clear hA e10 e12 g10 q2 hal hro
    rcases ha' with rfl | rfl | rfl
    · simp (decide := true) only [if_true, if_false]
      refine ⟨fun s' hd => ?_, fun hd => ?_⟩
      · split at hd
        · cases hd
          rw [if_neg (by omega), if_pos (by omega), if_neg (by omega)]
          exact cm_st2 rfl rfl rfl rfl (tw_up z hz)
        · cases hd
      · split at hd
        · cases hd
        · repeat' split
          all_goals first | (exfalso; omega) | rfl
    · simp (decide := true) only [if_true, if_false]
      refine ⟨fun s' hd => ?_, fun hd => ?_⟩
      · split at hd
        · cases hd
          rw [if_neg (by omega), if_pos (by omega), if_neg (by omega)]
          exact cm_st2 rfl rfl rfl rfl (tw_dn z hz (by omega))
        · cases hd
      · split at hd
        · cases hd
        · repeat' split
          all_goals first | (exfalso; omega) | rfl
    · simp (decide := true) only [if_true]
      exact ⟨fun s' hd => by cases hd; rfl, fun hd => by cases hd⟩
