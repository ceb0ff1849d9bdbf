/-! Which states a sheet can come to: at most 638 that aren't twisted, in at most 144 packages. -/
/-- l is what is left of A by halves and thirds -/
def ch (l A : Nat) : Bool := decide (1 ≤ l ∧ A % l = 0 ∧ A / l ∈ [1, 2, 3, 4, 6, 8, 9, 12, 16, 18, 24, 27, 32, 36, 48])
def cl (A : Nat) : List Nat := (List.range 49).filter (fun l => ch l A)
def hmA (q : Nat) : List Nat := (if q % 3 = 0 then [] else [0, 1]) ++ (if q = 1 then [] else [4])
def hmB (q : Nat) (b : Bool) : List Nat := (if q % 3 = 0 then [] else [2, 3]) ++ (if q = 1 ∨ b = true then [] else [4])
def u1 (A B : Nat) : List St := (cl A).flatMap (fun l => (cl B).flatMap (fun w => (hmA (B / w)).flatMap (fun e => [(l, w, e, 0, 2), (l, w, e, 1, 2)])))
def u2 (A B : Nat) : List St := (cl B).flatMap (fun l => (cl A).flatMap (fun w => (hmB (B / l) (ch l A && ch w B && decide (¬ B / w = 1))).flatMap (fun e => [(l, w, e, 0, 2), (l, w, e, 1, 2)])))
def ul (A B : Nat) : List St := u1 A B ++ u2 A B
def dl (A B : Nat) : List (Nat × Nat) := (cl A).flatMap (fun l => (cl B).map (fun w => (l, w))) ++ (cl B).flatMap (fun l => ((cl A).filter (fun w => !(ch l A && ch w B))).map (fun w => (l, w)))
/-- what a state can be, seen by its sides and its hem -/
def uin (A B l w e : Nat) : Prop := (ch l A = true ∧ ch w B = true ∧ ((e = 0 ∨ e = 1) ∧ ¬ (B / w) % 3 = 0 ∨ e = 4 ∧ ¬ B / w = 1)) ∨ (ch w A = true ∧ ch l B = true ∧ ((e = 2 ∨ e = 3) ∧ ¬ (B / l) % 3 = 0 ∨ e = 4 ∧ ¬ B / l = 1))
theorem ch_2a : ∀ A, A < 49 → ∀ l, l < 49 → (ch l A && decide (l % 2 = 0)) = true → ch (l / 2) A = true ∧ decide ((A / (l / 2)) % 3 = 0) = decide ((A / l) % 3 = 0) := by decide +kernel
theorem ch_2b : ∀ A, A < 49 → ∀ l, l < 49 → (ch l A && decide (l % 2 = 0)) = true → ¬ A / (l / 2) = 1 := by decide +kernel
theorem ch_2 (A : Nat) (hA : A < 49) (l : Nat) (hl : l < 49) (h : ch l A = true) (h2 : l % 2 = 0) : ch (l / 2) A = true ∧ ((A / (l / 2)) % 3 = 0 ↔ (A / l) % 3 = 0) ∧ ¬ A / (l / 2) = 1 := by
  have hh : (ch l A && decide (l % 2 = 0)) = true := by rw [h, decide_eq_true h2]; rfl
  have a := ch_2a A hA l hl hh
  exact ⟨a.1, decide_eq_decide.mp a.2, ch_2b A hA l hl hh⟩
theorem ch_3 : ∀ A, A < 49 → ∀ l, l < 49 → ch l A = true → l % 3 = 0 → ch (l / 3) A = true ∧ ¬ A / (l / 3) = 1 := by decide +kernel
theorem ch_s : ∀ A, A < 49 → 1 ≤ A → ch A A = true ∧ A / A = 1 := by decide +kernel
theorem hb_01 : ∀ e, e < 2 → hemB 0 e < 2 ∧ hemB 1 e < 2 ∧ hemB 2 e = 4 ∧ hemB 3 e = e ∧ hemB 4 e = e ∧ hemB 5 e = e ∧ hemB 6 e < 2 ∧ hemB 7 e < 2 := by decide
theorem hb_018 : ∀ e, e < 2 → hemB 8 e = 2 ∨ hemB 8 e = 3 := by decide
theorem hb_23 : ∀ e, e < 2 → hemB 0 (e + 2) = e + 2 ∧ hemB 1 (e + 2) = e + 2 ∧ hemB 2 (e + 2) = e + 2 ∧ hemB 5 (e + 2) = 4 ∧ hemB 6 (e + 2) = e + 2 ∧ hemB 8 (e + 2) < 2 := by decide
theorem hb_23b : ∀ e, e < 2 → (hemB 3 (e + 2) = 2 ∨ hemB 3 (e + 2) = 3) ∧ (hemB 4 (e + 2) = 2 ∨ hemB 4 (e + 2) = 3) ∧ (hemB 7 (e + 2) = 2 ∨ hemB 7 (e + 2) = 3) := by decide
theorem hb_4 : ∀ a, a < 9 → hemB a 4 = 4 := by decide
theorem hemB_tab (e : Nat) (he : e < 5) : (e = 0 ∨ e = 1 → (hemB 0 e = 0 ∨ hemB 0 e = 1) ∧ (hemB 1 e = 0 ∨ hemB 1 e = 1) ∧ hemB 2 e = 4 ∧ hemB 3 e = e ∧ hemB 4 e = e ∧ hemB 5 e = e ∧ (hemB 6 e = 0 ∨ hemB 6 e = 1) ∧ (hemB 7 e = 0 ∨ hemB 7 e = 1) ∧ (hemB 8 e = 2 ∨ hemB 8 e = 3)) ∧ (e = 2 ∨ e = 3 → hemB 0 e = e ∧ hemB 1 e = e ∧ hemB 2 e = e ∧ (hemB 3 e = 2 ∨ hemB 3 e = 3) ∧ (hemB 4 e = 2 ∨ hemB 4 e = 3) ∧ hemB 5 e = 4 ∧ hemB 6 e = e ∧ (hemB 7 e = 2 ∨ hemB 7 e = 3) ∧ (hemB 8 e = 0 ∨ hemB 8 e = 1)) ∧ (e = 4 → ∀ a, a < 9 → hemB a e = 4) := by
  refine ⟨fun h => ?_, fun h => ?_, fun h a ha => ?_⟩
  · have q := hb_01 e (by omega)
    have q8 := hb_018 e (by omega)
    exact ⟨by omega, by omega, q.2.2.1, q.2.2.2.1, q.2.2.2.2.1, q.2.2.2.2.2.1, by omega, by omega, q8⟩
  · have q := hb_23 (e - 2) (by omega)
    have q8 := hb_23b (e - 2) (by omega)
    rw [show e - 2 + 2 = e by omega] at q q8
    exact ⟨q.1, q.2.1, q.2.2.1, q8.1, q8.2.1, q.2.2.2.1, q.2.2.2.2.1, q8.2.2, by omega⟩
  · rw [h]; exact hb_4 a ha
def uS (A B : Nat) (s : St) : Prop := uin A B s.1 s.2.1 s.2.2.1
/-- halving or thirding the wide side -/
theorem uin_w2 {A B l w e a : Nat} (hA : A < 49) (hB : B < 49) (hl : l < 49) (hw : w < 49) (he : e < 5) (h : uin A B l w e) (h2 : w % 2 = 0) (ha : a = 0 ∨ a = 1) : uin A B l (w / 2) (hemB a e) := by
  have tb := hemB_tab e he
  rcases h with ⟨c1, c2, hh⟩ | ⟨c1, c2, hh⟩
  · obtain ⟨k1, k2, k3⟩ := ch_2 B hB w hw c2 h2
    refine Or.inl ⟨c1, k1, ?_⟩
    rcases hh with ⟨h0, h1⟩ | ⟨h0, h1⟩
    · left
      have t := tb.1 h0
      refine ⟨?_, fun x => h1 (k2.mp x)⟩
      rcases ha with rfl | rfl
      · exact t.1
      · exact t.2.1
    · right
      exact ⟨tb.2.2 h0 a (by omega), k3⟩
  · obtain ⟨k1, k2, k3⟩ := ch_2 A hA w hw c1 h2
    refine Or.inr ⟨k1, c2, ?_⟩
    rcases hh with ⟨h0, h1⟩ | ⟨h0, h1⟩
    · left
      have t := tb.2.1 h0
      refine ⟨?_, h1⟩
      rcases ha with rfl | rfl
      · rw [t.1]; exact h0
      · rw [t.2.1]; exact h0
    · right
      exact ⟨tb.2.2 h0 a (by omega), h1⟩
theorem uin_w3 {A B l w e : Nat} (hA : A < 49) (hB : B < 49) (hl : l < 49) (hw : w < 49) (he : e < 5) (h : uin A B l w e) (h2 : w % 3 = 0) : uin A B l (w / 3) (hemB 2 e) := by
  have tb := hemB_tab e he
  rcases h with ⟨c1, c2, hh⟩ | ⟨c1, c2, hh⟩
  · obtain ⟨k1, k3⟩ := ch_3 B hB w hw c2 h2
    refine Or.inl ⟨c1, k1, Or.inr ⟨?_, k3⟩⟩
    rcases hh with ⟨h0, h1⟩ | ⟨h0, h1⟩
    · exact (tb.1 h0).2.2.1
    · exact tb.2.2 h0 2 (by omega)
  · obtain ⟨k1, k3⟩ := ch_3 A hA w hw c1 h2
    refine Or.inr ⟨k1, c2, ?_⟩
    rcases hh with ⟨h0, h1⟩ | ⟨h0, h1⟩
    · left
      refine ⟨?_, h1⟩
      rw [(tb.2.1 h0).2.2.1]; exact h0
    · right
      exact ⟨tb.2.2 h0 2 (by omega), h1⟩
theorem uin_l2 {A B l w e a : Nat} (hA : A < 49) (hB : B < 49) (hl : l < 49) (hw : w < 49) (he : e < 5) (h : uin A B l w e) (h2 : l % 2 = 0) (ha : a = 3 ∨ a = 4 ∨ a = 5) : uin A B (l / 2) w (hemB a e) := by
  have tb := hemB_tab e he
  rcases h with ⟨c1, c2, hh⟩ | ⟨c1, c2, hh⟩
  · obtain ⟨k1, k2, k3⟩ := ch_2 A hA l hl c1 h2
    refine Or.inl ⟨k1, c2, ?_⟩
    rcases hh with ⟨h0, h1⟩ | ⟨h0, h1⟩
    · left
      have t := tb.1 h0
      refine ⟨?_, h1⟩
      rcases ha with rfl | rfl | rfl
      · rw [t.2.2.2.1]; exact h0
      · rw [t.2.2.2.2.1]; exact h0
      · rw [t.2.2.2.2.2.1]; exact h0
    · right
      exact ⟨tb.2.2 h0 a (by omega), h1⟩
  · obtain ⟨k1, k2, k3⟩ := ch_2 B hB l hl c2 h2
    refine Or.inr ⟨c1, k1, ?_⟩
    rcases hh with ⟨h0, h1⟩ | ⟨h0, h1⟩
    · have t := tb.2.1 h0
      rcases ha with rfl | rfl | rfl
      · left
        exact ⟨t.2.2.2.1, fun x => h1 (k2.mp x)⟩
      · left
        exact ⟨t.2.2.2.2.1, fun x => h1 (k2.mp x)⟩
      · right
        exact ⟨t.2.2.2.2.2.1, k3⟩
    · right
      exact ⟨tb.2.2 h0 a (by omega), k3⟩
theorem uin_t {A B l w e a : Nat} (he : e < 5) (h : uin A B l w e) (ha : a = 6 ∨ a = 7) : uin A B l w (hemB a e) := by
  have tb := hemB_tab e he
  rcases h with ⟨c1, c2, hh⟩ | ⟨c1, c2, hh⟩
  · refine Or.inl ⟨c1, c2, ?_⟩
    rcases hh with ⟨h0, h1⟩ | ⟨h0, h1⟩
    · left
      have t := tb.1 h0
      refine ⟨?_, h1⟩
      rcases ha with rfl | rfl
      · exact t.2.2.2.2.2.2.1
      · exact t.2.2.2.2.2.2.2.1
    · right
      exact ⟨tb.2.2 h0 a (by omega), h1⟩
  · refine Or.inr ⟨c1, c2, ?_⟩
    rcases hh with ⟨h0, h1⟩ | ⟨h0, h1⟩
    · left
      have t := tb.2.1 h0
      refine ⟨?_, h1⟩
      rcases ha with rfl | rfl
      · rw [t.2.2.2.2.2.2.1]; exact h0
      · exact t.2.2.2.2.2.2.2.1
    · right
      exact ⟨tb.2.2 h0 a (by omega), h1⟩
theorem uin_q {A B l w e : Nat} (he : e < 5) (h : uin A B l w e) : uin A B w l (hemB 8 e) := by
  have tb := hemB_tab e he
  rcases h with ⟨c1, c2, hh⟩ | ⟨c1, c2, hh⟩
  · refine Or.inr ⟨c1, c2, ?_⟩
    rcases hh with ⟨h0, h1⟩ | ⟨h0, h1⟩
    · exact Or.inl ⟨(tb.1 h0).2.2.2.2.2.2.2.2, h1⟩
    · exact Or.inr ⟨tb.2.2 h0 8 (by omega), h1⟩
  · refine Or.inl ⟨c1, c2, ?_⟩
    rcases hh with ⟨h0, h1⟩ | ⟨h0, h1⟩
    · exact Or.inl ⟨(tb.2.1 h0).2.2.2.2.2.2.2.2, h1⟩
    · exact Or.inr ⟨tb.2.2 h0 8 (by omega), h1⟩
theorem uS_do {A B room a : Nat} {s s' : St} (hA : A < 49) (hB : B < 49) (hK : st_K s) (h : uS A B s) (ha : a ≤ 12) (hd : st_do room a s = some s') : uS A B s' := by
  obtain ⟨l, w, e, f, z⟩ := s
  obtain ⟨⟨l1, l2⟩, ⟨w1, w2⟩, he, hf, hz⟩ := hK
  simp only at l1 l2 w1 w2 he hf hz
  have h' : uin A B l w e := h
  have hl : l < 49 := by omega
  have hw : w < 49 := by omega
  unfold st_do at hd
  simp only at hd
  by_cases a12 : a = 12
  · rw [if_pos a12] at hd; cases hd; exact h
  rw [if_neg a12] at hd
  by_cases a9 : a = 9
  · rw [if_pos a9] at hd
    split at hd
    · cases hd
    · cases hd; exact h'
  rw [if_neg a9] at hd
  by_cases a8 : a = 8
  · rw [if_pos a8] at hd
    split at hd
    · cases hd; exact uin_q he h'
    · cases hd
  rw [if_neg a8] at hd
  by_cases a10 : a = 10
  · rw [if_pos a10] at hd
    split at hd
    · cases hd; exact h'
    · cases hd
  rw [if_neg a10] at hd
  by_cases a11 : a = 11
  · rw [if_pos a11] at hd
    split at hd
    · cases hd; exact h'
    · cases hd
  rw [if_neg a11] at hd
  split at hd
  · by_cases a01 : a = 0 ∨ a = 1
    · rw [if_pos a01] at hd
      split at hd
      · rename_i h2
        cases hd; exact uin_w2 hA hB hl hw he h' h2 a01
      · cases hd
    rw [if_neg a01] at hd
    by_cases a2 : a = 2
    · rw [if_pos a2] at hd
      subst a2
      split at hd
      · rename_i h2
        cases hd; exact uin_w3 hA hB hl hw he h' h2
      · cases hd
    rw [if_neg a2] at hd
    by_cases a345 : a = 3 ∨ a = 4 ∨ a = 5
    · rw [if_pos a345] at hd
      split at hd
      · rename_i h2
        cases hd; exact uin_l2 hA hB hl hw he h' h2 a345
      · cases hd
    rw [if_neg a345] at hd
    cases hd
    exact uin_t he h' (by omega)
  · cases hd
theorem uS_0 {A B : Nat} (hA : 1 ≤ A ∧ A ≤ 48) (hB : 1 ≤ B ∧ B ≤ 48) : uS A B (A, B, 0, 0, 2) := by
  have q := ch_s B (by omega) hB.1
  exact Or.inl ⟨(ch_s A (by omega) hA.1).1, q.1, Or.inl ⟨Or.inl rfl, by rw [q.2]; decide⟩⟩
theorem mem_cl {A l : Nat} (hl : l < 49) (h : ch l A = true) : l ∈ cl A := List.mem_filter.mpr ⟨List.mem_range.mpr hl, h⟩
/-- in the list -/
theorem mem_ul {A B : Nat} {s : St} (hK : st_K s) (hz : s.2.2.2.2 = 2) (h : uS A B s) : s ∈ ul A B := by
  obtain ⟨l, w, e, f, z⟩ := s
  obtain ⟨⟨l1, l2⟩, ⟨w1, w2⟩, he, hf, -⟩ := hK
  simp only at l1 l2 w1 w2 he hf hz
  subst hz
  have hf2 : (l, w, e, f, 2) ∈ ([(l, w, e, 0, 2), (l, w, e, 1, 2)] : List St) := by
    have : f = 0 ∨ f = 1 := by omega
    rcases this with rfl | rfl
    · exact List.mem_cons_self
    · exact List.mem_cons_of_mem _ List.mem_cons_self
  have h' : uin A B l w e := h
  have g1 : ch l A = true → ch w B = true → ((e = 0 ∨ e = 1) ∧ ¬ (B / w) % 3 = 0 ∨ e = 4 ∧ ¬ B / w = 1) → (l, w, e, f, 2) ∈ ul A B := by
    intro c1 c2 hh
    refine List.mem_append_left _ (List.mem_flatMap.mpr ⟨l, mem_cl (by omega) c1, List.mem_flatMap.mpr ⟨w, mem_cl (by omega) c2, List.mem_flatMap.mpr ⟨e, ?_, hf2⟩⟩⟩)
    unfold hmA
    rcases hh with ⟨h0, h1⟩ | ⟨h0, h1⟩
    · refine List.mem_append_left _ ?_
      rw [if_neg h1]
      rcases h0 with rfl | rfl <;> decide
    · refine List.mem_append_right _ ?_
      rw [if_neg h1, h0]
      decide
  rcases h' with ⟨c1, c2, hh⟩ | ⟨c1, c2, hh⟩
  · exact g1 c1 c2 hh
  · by_cases hb : (ch l A && ch w B && decide (¬ B / w = 1)) = true ∧ e = 4
    · obtain ⟨hb, he4⟩ := hb
      rw [Bool.and_eq_true, Bool.and_eq_true] at hb
      exact g1 hb.1.1 hb.1.2 (Or.inr ⟨he4, of_decide_eq_true hb.2⟩)
    · refine List.mem_append_right _ (List.mem_flatMap.mpr ⟨l, mem_cl (by omega) c2, List.mem_flatMap.mpr ⟨w, mem_cl (by omega) c1, List.mem_flatMap.mpr ⟨e, ?_, hf2⟩⟩⟩)
      unfold hmB
      rcases hh with ⟨h0, h1⟩ | ⟨h0, h1⟩
      · refine List.mem_append_left _ ?_
        rw [if_neg h1]
        rcases h0 with rfl | rfl <;> decide
      · refine List.mem_append_right _ ?_
        rw [if_neg (by
          intro hh
          rcases hh with hh | hh
          · exact h1 hh
          · exact hb ⟨hh, h0⟩), h0]
        decide
theorem mem_dl {A B l w e : Nat} (hl : l < 49) (hw : w < 49) (h : uin A B l w e) : (l, w) ∈ dl A B := by
  have g1 : ch l A = true → ch w B = true → (l, w) ∈ dl A B := fun c1 c2 => List.mem_append_left _ (List.mem_flatMap.mpr ⟨l, mem_cl hl c1, List.mem_map.mpr ⟨w, mem_cl hw c2, rfl⟩⟩)
  rcases h with ⟨c1, c2, -⟩ | ⟨c1, c2, -⟩
  · exact g1 c1 c2
  · by_cases hb : (ch l A && ch w B) = true
    · rw [Bool.and_eq_true] at hb
      exact g1 hb.1 hb.2
    · refine List.mem_append_right _ (List.mem_flatMap.mpr ⟨l, mem_cl hl c2, List.mem_map.mpr ⟨w, List.mem_filter.mpr ⟨mem_cl hw c1, ?_⟩, rfl⟩⟩)
      rw [Bool.eq_false_iff.mpr hb]
      rfl
def hs (B : Nat) : Nat := ((cl B).map (fun w => 2 * (hmA (B / w)).length)).sum
def cnT : List Nat := [0, 1, 2, 2, 3, 1, 4, 1, 4, 3, 2, 1, 6, 1, 2, 2, 5, 1, 6, 1, 3, 2, 2, 1, 8, 1, 2, 4, 3, 1, 4, 1, 6, 2, 2, 1, 9, 1, 2, 2, 4, 1, 4, 1, 3, 3, 2, 1, 10]
def hsT : List Nat := [0, 4, 10, 6, 16, 4, 14, 4, 22, 8, 10, 4, 22, 4, 10, 6, 28, 4, 18, 4, 16, 6, 10, 4, 30, 4, 10, 10, 16, 4, 14, 4, 34, 6, 10, 4, 28, 4, 10, 6, 22, 4, 14, 4, 16, 8, 10, 4, 38]
theorem cn_ok : ∀ A, A < 49 → (cl A).length = cnT.getD A 0 := by decide +kernel
theorem hs_ok : ∀ A, A < 49 → hs A = hsT.getD A 0 := by decide +kernel
theorem pr_1 : ∀ A, A < 49 → ∀ B, B < 49 → cnT.getD A 0 * (2 * hsT.getD B 0) ≤ 638 ∨ A * 49 + B = 1812 ∨ A * 49 + B = 2384 ∨ A * 49 + B = 2400 := by decide +kernel
theorem pr_2 : ∀ A, A < 49 → ∀ B, B < 49 → 2 * (cnT.getD A 0 * cnT.getD B 0) ≤ 144 ∨ (A * 49 + B) ∈ [1224, 1800, 1812, 2376, 2388, 2400] := by decide +kernel
theorem ul_1 : (ul 36 48).length ≤ 638 := by decide +kernel
theorem ul_2 : (ul 48 32).length ≤ 638 := by decide +kernel
theorem ul_3 : (ul 48 48).length ≤ 638 := by decide +kernel
theorem dl_1 : (dl 24 48).length ≤ 144 ∧ (dl 36 36).length ≤ 144 ∧ (dl 36 48).length ≤ 144 := by decide +kernel
theorem dl_2 : (dl 48 24).length ≤ 144 ∧ (dl 48 36).length ≤ 144 ∧ (dl 48 48).length ≤ 144 := by decide +kernel
theorem sum_le {α : Type} {f g : α → Nat} : ∀ (l : List α), (∀ x ∈ l, f x ≤ g x) → (l.map f).sum ≤ (l.map g).sum := by
  intro l
  induction l with
  | nil => intro _; exact Nat.le_refl _
  | cons a r ih =>
    intro h
    simp only [List.map_cons, List.sum_cons]
    have h1 := h a List.mem_cons_self
    have h2 := ih (fun x hx => h x (List.mem_cons_of_mem _ hx))
    omega
theorem sum_mul {α : Type} {g : α → Nat} (c : Nat) : ∀ (l : List α), (l.map (fun x => c * g x)).sum = c * (l.map g).sum := by
  intro l
  induction l with
  | nil => rfl
  | cons a r ih =>
    simp only [List.map_cons, List.sum_cons, ih, Nat.mul_add]
theorem sum_c {α : Type} (c : Nat) : ∀ (l : List α), (l.map (fun _ => c)).sum = l.length * c := by
  intro l
  induction l with
  | nil => simp
  | cons a r ih =>
    simp only [List.map_cons, List.sum_cons, ih, List.length_cons, Nat.add_mul]
    omega
theorem two_len (l w : Nat) : ∀ (E : List Nat), (E.flatMap (fun e => ([(l, w, e, 0, 2), (l, w, e, 1, 2)] : List St))).length = 2 * E.length := by
  intro E
  induction E with
  | nil => rfl
  | cons a r ih =>
    simp only [List.flatMap_cons, List.length_append, ih, List.length_cons, List.length_nil]
    omega
theorem hmB_le (q : Nat) (b : Bool) : (hmB q b).length ≤ (hmA q).length := by
  unfold hmB hmA
  simp only [List.length_append]
  apply Nat.add_le_add
  · split <;> exact Nat.le_refl _
  · split
    · exact Nat.zero_le _
    · rename_i h
      rw [if_neg (fun e => h (Or.inl e))]
      exact Nat.le_refl _
theorem u1_len (A B : Nat) : (u1 A B).length = (cl A).length * hs B := by
  unfold u1
  rw [List.length_flatMap]
  have q : ∀ l : Nat, ((cl B).flatMap (fun w => (hmA (B / w)).flatMap (fun e => ([(l, w, e, 0, 2), (l, w, e, 1, 2)] : List St)))).length = hs B := by
    intro l
    rw [List.length_flatMap]
    unfold hs
    congr 1
    apply List.map_congr_left
    intro w _
    exact two_len l w _
  have e : (cl A).map (fun l => ((cl B).flatMap (fun w => (hmA (B / w)).flatMap (fun e => ([(l, w, e, 0, 2), (l, w, e, 1, 2)] : List St)))).length) = (cl A).map (fun _ => hs B) := List.map_congr_left (fun l _ => q l)
  rw [e]
  exact sum_c _ _
theorem u2_len (A B : Nat) : (u2 A B).length ≤ (cl A).length * hs B := by
  unfold u2
  rw [List.length_flatMap]
  unfold hs
  rw [← sum_mul]
  apply sum_le
  intro l _
  rw [List.length_flatMap]
  refine Nat.le_trans (sum_le (g := fun _ => 2 * (hmA (B / l)).length) (cl A) (fun w _ => ?_)) ?_
  · rw [two_len]
    exact Nat.mul_le_mul_left 2 (hmB_le _ _)
  · rw [sum_c]
    exact Nat.le_refl _
theorem ul_len (A : Nat) (hA : A < 49) (B : Nat) (hB : B < 49) : (ul A B).length ≤ 638 := by
  rcases pr_1 A hA B hB with h | h | h | h
  · have a := u1_len A B
    have b := u2_len A B
    rw [cn_ok A hA, hs_ok B hB] at a b
    unfold ul
    rw [List.length_append]
    have e : cnT.getD A 0 * (2 * hsT.getD B 0) = 2 * (cnT.getD A 0 * hsT.getD B 0) := by rw [Nat.mul_left_comm]
    omega
  · have h1 : A = 36 ∧ B = 48 := by omega
    rw [h1.1, h1.2]; exact ul_1
  · have h1 : A = 48 ∧ B = 32 := by omega
    rw [h1.1, h1.2]; exact ul_2
  · have h1 : A = 48 ∧ B = 48 := by omega
    rw [h1.1, h1.2]; exact ul_3
theorem dl_raw (A B : Nat) : (dl A B).length ≤ 2 * ((cl A).length * (cl B).length) := by
  unfold dl
  rw [List.length_append, List.length_flatMap, List.length_flatMap]
  simp only [List.length_map]
  rw [sum_c]
  have : ((cl B).map (fun l => ((cl A).filter (fun w => !(ch l A && ch w B))).length)).sum ≤ (cl B).length * (cl A).length := by
    rw [← sum_c]
    exact sum_le _ (fun l _ => List.length_filter_le _ _)
  have e : (cl B).length * (cl A).length = (cl A).length * (cl B).length := Nat.mul_comm _ _
  omega
theorem dl_len (A : Nat) (hA : A < 49) (B : Nat) (hB : B < 49) : (dl A B).length ≤ 144 := by
  rcases pr_2 A hA B hB with h | h
  · have a := dl_raw A B
    rw [cn_ok A hA, cn_ok B hB] at a
    omega
  · simp only [List.mem_cons, List.not_mem_nil, or_false] at h
    rcases h with h | h | h | h | h | h
    · have h1 : A = 24 ∧ B = 48 := by omega
      rw [h1.1, h1.2]; exact dl_1.1
    · have h1 : A = 36 ∧ B = 36 := by omega
      rw [h1.1, h1.2]; exact dl_1.2.1
    · have h1 : A = 36 ∧ B = 48 := by omega
      rw [h1.1, h1.2]; exact dl_1.2.2
    · have h1 : A = 48 ∧ B = 24 := by omega
      rw [h1.1, h1.2]; exact dl_2.1
    · have h1 : A = 48 ∧ B = 36 := by omega
      rw [h1.1, h1.2]; exact dl_2.2.1
    · have h1 : A = 48 ∧ B = 48 := by omega
      rw [h1.1, h1.2]; exact dl_2.2.2
