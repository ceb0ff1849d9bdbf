/-! What is wished; what the search answers. -/
def wsh (w : Nat → Int32) (s : St) : Bool := decide (s.2.2.2.2 = 2 ∧ nI s.1 = w 14 ∧ nI s.2.1 = w 15 ∧ (w 16 = 2 ∨ nI s.2.2.2.1 = w 16) ∧ (w 17 = 5 ∨ nI s.2.2.1 = w 17))
theorem met_x {h : xm_H} {t : Nat} {w : Nat → Int32} {s : St} (hK : st_K s) (e0 : h.1 (t + 1) 0 = w 14) (e1 : h.1 (t + 1) 1 = w 15) (e2 : h.1 (t + 1) 2 = w 16) (e3 : h.1 (t + 1) 3 = w 17) : F_X8_isMetBy h t (st_P s) = if wsh w s = true then 1 else 0 := by
  unfold F_X8_isMetBy wsh
  rw [cx_long hK, cx_wide hK, cx_twist hK, cx_hem hK, cx_face hK, e0, e1, e2, e3]
  simp only [tw_eq hK.2.2.2.2, decide_eq_true_eq]
  by_cases a1 : s.2.2.2.2 = 2 <;> by_cases a2 : nI s.1 = w 14 <;> by_cases a3 : nI s.2.1 = w 15 <;> by_cases a4 : w 16 = 2 <;> by_cases a5 : nI s.2.2.2.1 = w 16 <;> by_cases a6 : w 17 = 5 <;> by_cases a7 : nI s.2.2.1 = w 17 <;> simp only [a1, a2, a3, a4, a5, a6, a7, if_true, if_false, true_and, and_true, and_false, false_and, true_or, or_true, or_false, false_or, and_self, or_self]
theorem met_m {h : xm_H} {t : Nat} {s : St} (hK : st_K s) : F_X11_isAsWished h t (st_M s) = if wsh (h.1 83) s = true then 1 else 0 := by
  unfold F_X11_isAsWished wsh
  rw [cm_long hK, cm_wide hK, cm_twist hK, cm_hem hK, cm_face hK]
  simp only [tw_eq hK.2.2.2.2, decide_eq_true_eq, eq_comm (a := h.1 83 16) (b := nI s.2.2.2.1), eq_comm (a := h.1 83 17) (b := nI s.2.2.1)]
  by_cases a1 : s.2.2.2.2 = 2 <;> by_cases a2 : nI s.1 = h.1 83 14 <;> by_cases a3 : nI s.2.1 = h.1 83 15 <;> by_cases a4 : h.1 83 16 = 2 <;> by_cases a5 : nI s.2.2.2.1 = h.1 83 16 <;> by_cases a6 : h.1 83 17 = 5 <;> by_cases a7 : nI s.2.2.1 = h.1 83 17 <;> simp only [a1, a2, a3, a4, a5, a6, a7, if_true, if_false, true_and, and_true, and_false, false_and, true_or, or_true, or_false, false_or, and_self, or_self]
/-- what is read of a search that is through -/
def FC (nx : Nat → St → Option St) (s0 : St) (N : Nat) (Q : Nat → St) (par mv dep : Nat → Nat) (f : Nat → Nat → Int32) : Prop := BF nx s0 N Q par mv dep ∧ N ≤ 640 ∧ (∀ j, j < N → st_K (Q j)) ∧ f 61 14 = nI N ∧ (∀ j, j < N → f 64 j = st_P (Q j) ∧ f 68 j = nI (dep j)) ∧ (∀ j, 1 ≤ j → j < N → f 66 j = nI (par j) ∧ f 67 j = nI (mv j)) ∧ (∀ a b, a < N → b < 10 → (nx b (Q a) = none ∧ f 65 (a * 10 + b) = -1) ∨ (∃ j, j < N ∧ nx b (Q a) = some (Q j) ∧ f 65 (a * 10 + b) = nI j))
theorem FND.fc {al sp ar N P : Nat} {s0 : St} {Q : Nat → St} {par mv dep : Nat → Nat} {D : Nat → Nat × Nat} {f : Nat → Nat → Int32} (h : FND al sp ar s0 N P Q par mv dep D f) (hK : st_K s0) : FC (nxC al sp ar) s0 N Q par mv dep f := by
  obtain ⟨A, B, hA, hB, -, -, -, s1, s2, s3, s4, s5, s6, s7, s8, s9, s10⟩ := h
  exact ⟨s1, uV_len hA hB hK s2 s1.2.2.2.1, fun j hj => (s2 j hj).1, s3, s8, s9, fun a b ha hb => s10 a b ha hb (Or.inl ha)⟩
theorem FC.frame {nx : Nat → St → Option St} {s0 : St} {N : Nat} {Q : Nat → St} {par mv dep : Nat → Nat} {f f' : Nat → Nat → Int32} (h : FC nx s0 N Q par mv dep f) (e : ∀ q, 61 ≤ q → q ≤ 68 → f' q = f q) : FC nx s0 N Q par mv dep f' := by
  obtain ⟨s1, s2, s3, s4, s5, s6, s7⟩ := h
  exact ⟨s1, s2, s3, by rw [e 61 (by omega) (by omega)]; exact s4, fun j hj => by rw [e 64 (by omega) (by omega), e 68 (by omega) (by omega)]; exact s5 j hj, fun j h1 hj => by rw [e 66 (by omega) (by omega), e 67 (by omega) (by omega)]; exact s6 j h1 hj, fun a b ha hb => by rw [e 65 (by omega) (by omega)]; exact s7 a b ha hb⟩
theorem nI_m1 (x : Nat) : nI (x + 1) + (-1 : Int32) = nI x := by
  rw [← nI_1, Int32.add_assoc, show (1 : Int32) + (-1) = 0 from rfl, Int32.add_zero]
section OPS
variable {L : Nat} {xs : Nat → Int32} {d : Nat} {nx : Nat → St → Option St} {s0 : St} {N : Nat} {Q : Nat → St} {par mv dep : Nat → Nat}
theorem v_first {h : xm_H} {t : Nat} {W : St → Bool} (hR : h.2.2 = xm_R0 t) (ht : t = 5 ∨ t = 13) (hF : FC nx s0 N Q par mv dep h.1) (hW : ∀ s, st_K s → F_X8_isMetBy h t (st_P s) = if W s = true then 1 else 0) : (∃ g, g < N ∧ W (Q g) = true ∧ (∀ j, j < g → ¬ W (Q j) = true) ∧ xm_V (xm_X0 L xs) xm_P (d + 8) 87 [.ref 61, .ref (t + 1)] h (some (.int (nI g))) h) ∨ ((∀ j, j < N → ¬ W (Q j) = true) ∧ xm_V (xm_X0 L xs) xm_P (d + 8) 87 [.ref 61, .ref (t + 1)] h (some (.int (-1))) h) := by
  obtain ⟨s1, s2, s3, s4, s5, s6, s7⟩ := hF
  have loop : ∀ m i, m + i = N → (∀ j, j < i → ¬ W (Q j) = true) → (∃ g, g < N ∧ W (Q g) = true ∧ (∀ j, j < g → ¬ W (Q j) = true) ∧ xm_E (xm_X0 L xs) xm_P (d + 7) co_X3_firstWished 2 [some (.ref 61), some (.ref (t + 1)), some (.int (nI i))] [] h (some (.int (nI g))) h) ∨ ((∀ j, j < N → ¬ W (Q j) = true) ∧ xm_E (xm_X0 L xs) xm_P (d + 7) co_X3_firstWished 2 [some (.ref 61), some (.ref (t + 1)), some (.int (nI i))] [] h (some (.int (-1))) h) := by
    intro m
    induction m with
    | zero =>
      intro i hm hj
      have hi : i = N := by omega
      subst hi
      exact Or.inr ⟨hj, s_X3_firstWished_2_0 (d := d) ht (by rw [s4]; exact nI_le (Nat.le_refl _) (by omega))⟩
    | succ m ih =>
      intro i hm hj
      have c0 : ¬ (h.1 61 14 ≤ nI i) := by rw [s4]; exact nI_ge (by omega) (by omega)
      have c1 : ¬ ((640 : Int32) ≤ nI i) := nI_ge (b := 640) (by omega) (by decide)
      have c2 : ¬ (nI i < 0 ∨ 640 ≤ (nI i).toNatClampNeg) := nI_in (by omega) (by decide)
      have e1 : F_X8_isMetBy h t (h.1 64 (nI i).toNatClampNeg) = if W (Q i) = true then 1 else 0 := by rw [nI_clamp (by omega), (s5 i (by omega)).1]; exact hW _ (s3 i (by omega))
      by_cases q : W (Q i) = true
      · rw [if_pos q] at e1
        exact Or.inl ⟨i, by omega, q, hj, s_X3_firstWished_2_3 (d := d) hR ht c0 c1 c2 (by rw [e1]; exact one_ne0)⟩
      · rw [if_neg q] at e1
        have K := ih (i + 1) (by omega) (fun j h => by
          by_cases ji : j = i
          · rw [ji]; exact q
          · exact hj j (by omega))
        rw [← nI_1] at K
        rcases K with ⟨g, g1, g2, g3, E⟩ | ⟨g1, E⟩
        · exact Or.inl ⟨g, g1, g2, g3, s_X3_firstWished_2_2 (d := d) hR ht c0 c1 c2 e1 E⟩
        · exact Or.inr ⟨g1, s_X3_firstWished_2_2 (d := d) hR ht c0 c1 c2 e1 E⟩
  rcases loop N 0 rfl (fun j hj => absurd hj (Nat.not_lt_zero _)) with ⟨g, g1, g2, g3, E⟩ | ⟨g1, E⟩
  · exact Or.inl ⟨g, g1, g2, g3, v_X3_firstWished (d := d + 7) (s_X3_firstWished_0_0 (d := d) ht E)⟩
  · exact Or.inr ⟨g1, v_X3_firstWished (d := d + 7) (s_X3_firstWished_0_0 (d := d) ht E)⟩
theorem depth_y {h : xm_H} {t g : Nat} (hF : FC nx s0 N Q par mv dep h.1) (hg : g < N) : F_X3_depthOf h t (nI g) = nI (dep g) := by
  obtain ⟨s1, s2, s3, s4, s5, s6, s7⟩ := hF
  unfold F_X3_depthOf
  rw [if_neg (nI_pos (by omega)), if_neg (by rw [s4]; exact nI_ge hg (by omega)), if_neg (show ¬ (640 : Int32) ≤ nI g from nI_ge (b := 640) (by omega) (by decide)), nI_clamp (by omega)]
  exact (s5 g hg).2
theorem depth_n {h : xm_H} {t : Nat} : F_X3_depthOf h t (-1) = -1 := by
  unfold F_X3_depthOf
  rw [if_pos (by decide)]
theorem v_towards {h : xm_H} {t g i : Nat} (hR : h.2.2 = xm_R0 t) (ht : t = 5 ∨ t = 13) (hF : FC nx s0 N Q par mv dep h.1) (hg : g < N) (hi : i < 2147483648) : xm_V (xm_X0 L xs) xm_P (d + 8) 92 [.ref 61, .int (nI g), .int (nI i)] h (some (.int (if i < dep g then nI (mv (anc par g (dep g - 1 - i))) else -1))) h := by
  have ed := depth_y (t := t) hF hg
  obtain ⟨s1, s2, s3, s4, s5, s6, s7⟩ := hF
  have hdg := s1.dle g hg
  by_cases q : i < dep g
  · rw [if_pos q]
    have loop : ∀ m e, m + e = dep g - 1 - i → xm_E (xm_X0 L xs) xm_P (d + 7) co_X3_moveTowards 17 [some (.ref 61), some (.int (nI g)), some (.int (nI i)), some (.int (nI (dep g))), some (.int (nI (anc par g e))), some (.int (nI (dep g - 1 - e)))] [] h (some (.int (nI (mv (anc par g (dep g - 1 - i)))))) h := by
      intro m
      induction m with
      | zero =>
        intro e he
        have ee : e = dep g - 1 - i := by omega
        have a := s1.up hg e (by omega)
        have pos : 1 ≤ anc par g e := by
          rcases Nat.eq_zero_or_pos (anc par g e) with z | z
          · rw [z, s1.2.2.1] at a; omega
          · exact z
        have V := s_X3_moveTowards_17_2 (L := L) (xs := xs) (d := d) (h := h) (l1 := nI g) (l2 := nI i) (l3 := nI (dep g)) (l4 := nI (anc par g e)) (l5 := nI (dep g - 1 - e)) hR ht (nI_le (by omega) (by omega)) (nI_pos (by omega)) (nI_ge (b := 640) (by omega) (by decide)) (nI_in (by omega) (by decide))
        rw [nI_clamp (show anc par g e < 2 ^ 31 by omega), (s6 _ pos a.1).2] at V
        rw [← ee]
        exact V
      | succ m ih =>
        intro e he
        have a := s1.up hg e (by omega)
        have pos : 1 ≤ anc par g e := by
          rcases Nat.eq_zero_or_pos (anc par g e) with z | z
          · rw [z, s1.2.2.1] at a; omega
          · exact z
        refine s_X3_moveTowards_17_5 (d := d) hR ht (nI_ge (by omega) (by omega)) (nI_pos (by omega)) (nI_ge (b := 640) (by omega) (by decide)) (nI_in (by omega) (by decide)) ?_
        rw [nI_clamp (show anc par g e < 2 ^ 31 by omega), (s6 _ pos a.1).1, show dep g - 1 - e = (dep g - 1 - (e + 1)) + 1 by omega, nI_m1]
        exact ih (e + 1) (by omega)
    refine v_X3_moveTowards (d := d + 7) (s_X3_moveTowards_0_1 (d := d) hR ht (nI_pos (by omega)) (by rw [ed]; exact nI_lt q (by omega)) ?_)
    rw [ed, show (1 : Int32) = nI 1 from rfl, nm_sub (by omega)]
    exact loop (dep g - 1 - i) 0 (by omega)
  · rw [if_neg q]
    exact v_X3_moveTowards (d := d + 7) (s_X3_moveTowards_0_2 (d := d) hR ht (nI_pos (by omega)) (by rw [ed]; exact nI_nlt (by omega) (by omega)))
theorem v_towards_n {h : xm_H} {t : Nat} {l : Int32} (hR : h.2.2 = xm_R0 t) (ht : t = 5 ∨ t = 13) : xm_V (xm_X0 L xs) xm_P (d + 8) 92 [.ref 61, .int (-1), .int l] h (some (.int (-1))) h := by
  by_cases q : l < 0
  · exact v_X3_moveTowards (d := d + 7) (s_X3_moveTowards_0_0 (d := d) hR ht q)
  · refine v_X3_moveTowards (d := d + 7) (s_X3_moveTowards_0_2 (d := d) hR ht q ?_)
    rw [depth_n]
    obtain ⟨j, hj, rfl⟩ := nI_of q
    rw [show (-1 : Int32) = -nI 1 from rfl, nj_n4 hj (by decide) (by decide)]
    exact fun e => e
theorem v_towards_m {h : xm_H} {t : Nat} {l g : Int32} (hR : h.2.2 = xm_R0 t) (ht : t = 5 ∨ t = 13) (q : l < 0) : xm_V (xm_X0 L xs) xm_P (d + 8) 92 [.ref 61, .int g, .int l] h (some (.int (-1))) h := v_X3_moveTowards (d := d + 7) (s_X3_moveTowards_0_0 (d := d) hR ht q)
def szd (a b : Nat) (s : St) : Bool := decide (s.1 = a ∧ s.2.1 = b ∧ s.2.2.2.2 = 2)
theorem v_sized {h : xm_H} {t a b : Nat} (ha : a ≤ 48) (hb : b ≤ 48) (hR : h.2.2 = xm_R0 t) (ht : t = 5 ∨ t = 13) (hF : FC nx s0 N Q par mv dep h.1) : (∃ g, g < N ∧ szd a b (Q g) = true ∧ (∀ j, j < g → ¬ szd a b (Q j) = true) ∧ xm_V (xm_X0 L xs) xm_P (d + 8) 109 [.ref 61, .int (nI a), .int (nI b)] h (some (.int (nI g))) h) ∨ ((∀ j, j < N → ¬ szd a b (Q j) = true) ∧ xm_V (xm_X0 L xs) xm_P (d + 8) 109 [.ref 61, .int (nI a), .int (nI b)] h (some (.int (-1))) h) := by
  obtain ⟨s1, s2, s3, s4, s5, s6, s7⟩ := hF
  have loop : ∀ m i, m + i = N → (∀ j, j < i → ¬ szd a b (Q j) = true) → (∃ g, g < N ∧ szd a b (Q g) = true ∧ (∀ j, j < g → ¬ szd a b (Q j) = true) ∧ (∀ l4, xm_E (xm_X0 L xs) xm_P (d + 7) co_X3_firstSized 2 [some (.ref 61), some (.int (nI a)), some (.int (nI b)), some (.int (nI i)), l4] [] h (some (.int (nI g))) h)) ∨ ((∀ j, j < N → ¬ szd a b (Q j) = true) ∧ (∀ l4, xm_E (xm_X0 L xs) xm_P (d + 7) co_X3_firstSized 2 [some (.ref 61), some (.int (nI a)), some (.int (nI b)), some (.int (nI i)), l4] [] h (some (.int (-1))) h)) := by
    intro m
    induction m with
    | zero =>
      intro i hm hj
      have hi : i = N := by omega
      subst hi
      exact Or.inr ⟨hj, fun l4 => s_X3_firstSized_2_0 (d := d) (by rw [s4]; exact nI_le (Nat.le_refl _) (by omega))⟩
    | succ m ih =>
      intro i hm hj
      have hK := s3 i (by omega)
      have c0 : ¬ (h.1 61 14 ≤ nI i) := by rw [s4]; exact nI_ge (by omega) (by omega)
      have c1 : ¬ ((640 : Int32) ≤ nI i) := nI_ge (b := 640) (by omega) (by decide)
      have c2 : ¬ (nI i < 0 ∨ 640 ≤ (nI i).toNatClampNeg) := nI_in (by omega) (by decide)
      have e64 : h.1 64 (nI i).toNatClampNeg = st_P (Q i) := by rw [nI_clamp (by omega), (s5 i (by omega)).1]
      have k1 := hK.1.2
      have k2 := hK.2.1.2
      have q1 : F_X5_longOf (h.1 64 (nI i).toNatClampNeg) = nI a ↔ (Q i).1 = a := by rw [e64, cx_long hK, nI_eq (by omega) (by omega)]
      have q2 : F_X5_wideOf (h.1 64 (nI i).toNatClampNeg) = nI b ↔ (Q i).2.1 = b := by rw [e64, cx_wide hK, nI_eq (by omega) (by omega)]
      have q3 : F_X5_twistOf (h.1 64 (nI i).toNatClampNeg) = 0 ↔ (Q i).2.2.2.2 = 2 := by rw [e64, cx_twist hK, tw_eq hK.2.2.2.2]
      have nw : ∀ hq : ¬ szd a b (Q i) = true, ∀ j, j < i + 1 → ¬ szd a b (Q j) = true := fun hq j h => by
        by_cases ji : j = i
        · rw [ji]; exact hq
        · exact hj j (by omega)
      have go : ¬ szd a b (Q i) = true → (∀ (ro : Option Value), (∀ l4, xm_E (xm_X0 L xs) xm_P (d + 7) co_X3_firstSized 2 [some (.ref 61), some (.int (nI a)), some (.int (nI b)), some (.int (nI (i + 1))), l4] [] h ro h) → (∀ l4, xm_E (xm_X0 L xs) xm_P (d + 7) co_X3_firstSized 2 [some (.ref 61), some (.int (nI a)), some (.int (nI b)), some (.int (nI i)), l4] [] h ro h)) := by
        intro hq ro E l4
        rw [← nI_1] at E
        by_cases p1 : (Q i).1 = a
        · by_cases p2 : (Q i).2.1 = b
          · exact s_X3_firstSized_2_3 (d := d) hR ht c0 c1 c2 (q1.mpr p1) (q2.mpr p2) (fun e => hq (decide_eq_true ⟨p1, p2, q3.mp e⟩)) (E _)
          · exact s_X3_firstSized_2_4 (d := d) hR ht c0 c1 c2 (q1.mpr p1) (fun e => p2 (q2.mp e)) (E _)
        · exact s_X3_firstSized_2_5 (d := d) hR ht c0 c1 c2 (fun e => p1 (q1.mp e)) (E _)
      by_cases hq : szd a b (Q i) = true
      · have hq' := of_decide_eq_true hq
        exact Or.inl ⟨i, by omega, hq, hj, fun l4 => s_X3_firstSized_2_2 (d := d) hR ht c0 c1 c2 (q1.mpr hq'.1) (q2.mpr hq'.2.1) (q3.mpr hq'.2.2)⟩
      · rcases ih (i + 1) (by omega) (nw hq) with ⟨g, g1, g2, g3, E⟩ | ⟨g1, E⟩
        · exact Or.inl ⟨g, g1, g2, g3, go hq _ E⟩
        · exact Or.inr ⟨g1, go hq _ E⟩
  rcases loop N 0 rfl (fun j hj => absurd hj (Nat.not_lt_zero _)) with ⟨g, g1, g2, g3, E⟩ | ⟨g1, E⟩
  · exact Or.inl ⟨g, g1, g2, g3, v_X3_firstSized (d := d + 7) (s_X3_firstSized_0_0 (d := d) (E _))⟩
  · exact Or.inr ⟨g1, v_X3_firstSized (d := d + 7) (s_X3_firstSized_0_0 (d := d) (E _))⟩
theorem v_within {h : xm_H} {t n : Nat} (hn : n ≤ 20) (hR : h.2.2 = xm_R0 t) (ht : t = 5 ∨ t = 13) (hF : FC nx s0 N Q par mv dep h.1) : xm_V (xm_X0 L xs) xm_P (d + 8) 112 [.ref 61, .int (nI n)] h (some (.int (nI (cq (fun j => decide (dep j ≤ n)) N)))) h := by
  obtain ⟨s1, s2, s3, s4, s5, s6, s7⟩ := hF
  have loop : ∀ m i, m + i = N → xm_E (xm_X0 L xs) xm_P (d + 7) co_X3_within 4 [some (.ref 61), some (.int (nI n)), some (.int (nI (cq (fun j => decide (dep j ≤ n)) i))), some (.int (nI i))] [] h (some (.int (nI (cq (fun j => decide (dep j ≤ n)) N)))) h := by
    intro m
    induction m with
    | zero =>
      intro i hm
      have hi : i = N := by omega
      subst hi
      exact s_X3_within_4_0 (d := d) (by rw [s4]; exact nI_le (Nat.le_refl _) (by omega))
    | succ m ih =>
      intro i hm
      have c0 : ¬ (h.1 61 14 ≤ nI i) := by rw [s4]; exact nI_ge (by omega) (by omega)
      have c1 : ¬ ((640 : Int32) ≤ nI i) := nI_ge (b := 640) (by omega) (by decide)
      have c2 : ¬ (nI i < 0 ∨ 640 ≤ (nI i).toNatClampNeg) := nI_in (by omega) (by decide)
      have e68 : h.1 68 (nI i).toNatClampNeg = nI (dep i) := by rw [nI_clamp (by omega), (s5 i (by omega)).2]
      have hd := s1.dle i (by omega)
      have E := ih (i + 1) (by omega)
      by_cases q : dep i ≤ n
      · refine s_X3_within_4_3 (d := d) hR ht c0 c1 c2 (by rw [e68]; exact nI_nlt q (by omega)) ?_
        have e1 : cq (fun j => decide (dep j ≤ n)) (i + 1) = cq (fun j => decide (dep j ≤ n)) i + 1 := by
          simp only [cq]
          rw [if_pos (decide_eq_true q)]
        rw [e1] at E
        rw [nI_1, nI_1]
        exact E
      · refine s_X3_within_4_2 (d := d) hR ht c0 c1 c2 (by rw [e68]; exact nI_lt (by omega) (by omega)) ?_
        have e1 : cq (fun j => decide (dep j ≤ n)) (i + 1) = cq (fun j => decide (dep j ≤ n)) i := by
          simp only [cq]
          rw [if_neg (fun e => q (of_decide_eq_true e)), Nat.add_zero]
        rw [e1] at E
        rw [nI_1]
        exact E
  exact v_X3_within (d := d + 7) (s_X3_within_0_0 (d := d) (loop N 0 rfl))
end OPS
