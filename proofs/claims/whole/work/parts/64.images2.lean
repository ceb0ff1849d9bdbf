/-! Images made and gone back to. -/
def isW (p a l : Nat) : Prop := (p = 22 ∧ a = 23 ∧ l = 24) ∨ (p = 32 ∧ a = 33 ∧ l = 34) ∨ (p = 42 ∧ a = 43 ∧ l = 44)
theorem rl_lin_f {f0 f1 f2 f3 f4 f5 f6 f7 e0 e1 e2 e3 e4 e5 e6 e7 w : Nat → Int32} (h0 : ∀ j, j < 12 → e0 j = f0 j) (h1 : ∀ j, j < 4 → e1 j = f1 j) (h2 : ∀ j, j < 6 → e2 j = f2 j) (h3 : ∀ j, j < 6 → e3 j = f3 j) (h4 : ∀ j, j < 6 → e4 j = f4 j) (h5 : ∀ j, j < 4 → e5 j = f5 j) (h6 : ∀ j, j < 4 → e6 j = f6 j) (h7 : ∀ j, j < 6 → e7 j = f7 j) (hl : rl_lin f0 f1 f2 f3 f4 f5 f6 f7 w) : rl_lin e0 e1 e2 e3 e4 e5 e6 e7 w := by
  obtain ⟨a0, a1, a2, a3, a4, a5, a6, a7, a8, a9, a10, a11, a12, a13, a14, a15, a16, a17⟩ := hl
  unfold rl_lin
  rw [h0 0 (by omega), h0 1 (by omega), h0 2 (by omega), h0 3 (by omega), h0 4 (by omega), h0 5 (by omega), h0 6 (by omega), h0 7 (by omega), h0 8 (by omega), h0 9 (by omega), h0 10 (by omega), h0 11 (by omega), h1 0 (by omega), h1 1 (by omega), h1 2 (by omega), h1 3 (by omega)]
  refine ⟨a0, a1, a2, a3, a4, a5, a6, a7, a8, a9, a10, a11, a12, a13, ?_, ?_, ?_, ?_⟩
  · intro hn k hk
    rw [h2 k hk]
    exact a14 hn k hk
  · intro j hj hj6
    rw [h3 j hj6, h4 j hj6]
    exact a15 j hj hj6
  · intro j hj hj4
    rw [h5 j hj4, h6 j hj4]
    exact a16 j hj hj4
  · intro j hj hj6
    rw [h7 j hj6]
    exact a17 j hj hj6
theorem rl_wk_f {f0 f1 e0 e1 w : Nat → Int32} (h2 : e0 2 = f0 2) (h3 : e0 3 = f0 3) (h4 : e0 4 = f0 4) (h1 : ∀ j, j < 60 → e1 j = f1 j) (hk : rl_wk f0 f1 w) : rl_wk e0 e1 w := by
  obtain ⟨a, b, c⟩ := hk
  refine ⟨h2.trans a, fun i hi hlt => by rw [h1 i hi]; exact b i hi hlt, fun hn => ?_⟩
  obtain ⟨s, c1, c2, c3, c4⟩ := c hn
  exact ⟨s, c1, c2, h3.trans c3, h4.trans c4⟩
/-- worlds that are alike -/
def wsm (w w' : Nat → Int32) : Prop := ∀ k, k < 110 → w' k = w k
theorem rl_wf_s {w w' : Nat → Int32} (hs : wsm w w') (hw : rl_wf w) : rl_wf w' := by
  obtain ⟨a0, a1, a2, a3, a4, a5, a6, ⟨c1, b1, b2, b3⟩, ⟨c2, b4, b5, b6⟩, ⟨c3, b7, b8, b9⟩, ⟨c4, d1, d2, d3⟩⟩ := hw
  unfold rl_wf
  rw [hs 22 (by omega), hs 0 (by omega), hs 1 (by omega), hs 2 (by omega), hs 3 (by omega), hs 4 (by omega), hs 11 (by omega), hs 12 (by omega), hs 13 (by omega), hs 14 (by omega), hs 15 (by omega), hs 16 (by omega), hs 17 (by omega), hs 18 (by omega), hs 19 (by omega), hs 20 (by omega), hs 21 (by omega), hs 23 (by omega)]
  refine ⟨a0, fun h0 k hk => by rw [hs k hk]; exact a1 h0 k hk, fun h0 => ?_, a3, a4, a5, a6, ⟨c1, b1, b2, fun j hj => ?_⟩, ⟨c2, b4, b5, fun j hj => ?_⟩, ⟨c3, b7, b8, fun j hj => ?_⟩, ⟨c4, d1, d2, fun j hj => ?_⟩⟩
  · obtain ⟨q0, q1, q2', q3, q4, q5⟩ := a2 h0
    exact ⟨q0, q1, q2', q3, q4, fun k hk => by rw [hs (5 + k) (by omega)]; exact q5 k hk⟩
  · rw [hs (24 + 2 * j) (by omega), hs (25 + 2 * j) (by omega)]
    exact b3 j hj
  · rw [hs (36 + 2 * j) (by omega), hs (37 + 2 * j) (by omega)]
    exact b6 j hj
  · rw [hs (44 + j) (by omega)]
    exact b9 j hj
  · rw [hs (50 + j) (by omega)]
    exact d3 j hj
theorem rl_wk_s {f0 f1 w w' : Nat → Int32} (hs : wsm w w') (hw : rl_wf w) (hk : rl_wk f0 f1 w) : rl_wk f0 f1 w' := by
  obtain ⟨-, -, -, -, -, -, -, -, -, -, ⟨c, hc, e23, -⟩⟩ := hw
  obtain ⟨a, b, g⟩ := hk
  refine ⟨by rw [hs 23 (by omega)]; exact a, fun i hi hlt => ?_, fun hn => ?_⟩
  · rw [hs 23 (by omega)] at hlt
    rw [hs (50 + i) (by omega)]
    exact b i hi hlt
  · rw [hs 22 (by omega)] at hn
    obtain ⟨s, c1, c2, c3, c4⟩ := g hn
    rw [hs 23 (by omega)]
    have e : (w 23).toNatClampNeg = c := by rw [e23, nI_clamp (by omega)]
    refine ⟨s, ?_, c2, c3, ?_⟩
    · rw [e] at c1 ⊢
      rw [rp_w (hs 0 (by omega)) (hs 1 (by omega)) (hs 3 (by omega)) c (fun i hi => hs (50 + i) (by omega))]
      exact c1
    · rw [e] at c4 ⊢
      rw [sc_w (fun k hk => hs (5 + k) (by omega)) c (fun i hi => hs (50 + i) (by omega))]
      exact c4
theorem rl_lin_s {f0 f1 f2 f3 f4 f5 f6 f7 w w' : Nat → Int32} (hs : wsm w w') (hl : rl_lin f0 f1 f2 f3 f4 f5 f6 f7 w) : rl_lin f0 f1 f2 f3 f4 f5 f6 f7 w' := rl_lin_w (fun k _ hk => hs k (by omega)) hl
section OPS
variable {L : Nat} {xs : Nat → Int32} {d : Nat} {SI : (Nat → Nat → Int32) → (Nat → Nat → Int64) → Prop}
/-- a Work copied: the object p, its acts a, its Linen l, out of p', a', l' -/
theorem v_copyW {h : xm_H} {t p a l p' a' l' : Nat} (hR : h.2.2 = xm_R0 t) (hl : isL l) (hl' : isL l') (hll : l ≠ l') (s0 : (xm_X0 L xs).1[p]? = some (.inr 8)) (s0' : (xm_X0 L xs).1[p']? = some (.inr 8)) (s1 : (xm_X0 L xs).1[a]? = some (.inl (0, 60))) (s1' : (xm_X0 L xs).1[a']? = some (.inl (0, 60))) (r0 : h.2.2 p 0 = some l) (r0' : h.2.2 p' 0 = some l') (r1 : h.2.2 p 1 = some a) (r1' : h.2.2 p' 1 = some a') (n1 : p ≠ p') (n2 : p ≠ a) (n3 : p' ≠ a) (n4 : p < l ∨ l + 7 < p) (n5 : p' < l ∨ l + 7 < p') (n6 : a < l ∨ l + 7 < a) (n7 : a' < l ∨ l + 7 < a') : ∃ g, xm_V (xm_X0 L xs) xm_P (d + 10) 177 [.ref p, .ref p'] h none g ∧ g.2 = h.2 ∧ (∀ q, q ≠ p → q ≠ a → (q < l ∨ l + 7 < q) → g.1 q = h.1 q) ∧ (∀ q, l ≤ q → q ≤ l + 7 → g.1 q = (cpL h l' l).1 q) ∧ (∀ j, j < 60 → g.1 a j = h.1 a' j) ∧ g.1 p 2 = h.1 p' 2 ∧ g.1 p 3 = h.1 p' 3 ∧ g.1 p 4 = h.1 p' 4 ∧ g.1 p 5 = h.1 p 5 := by
  have VL := v_copyL (L := L) (xs := xs) (d := d) hR hl' hl (Ne.symm hll)
  have e60 : ((60 : Int32).toNatClampNeg) = 60 := by decide
  have e0 : ((0 : Int32).toNatClampNeg) = 0 := by decide
  have V := v_X9_copy (d := d + 9) (p_X9_copy_0_0 (X := xm_X0 L xs) (P := xm_P) (d := d + 9) (h := h) (l0 := p) (l1 := p') (v0 := l) (v1 := l') (h2 := cpL h l' l) (v3 := a') (v4 := a) (n5 := 60) (n6 := 60) s0 r0 s0' r0' VL (ls_0 hl) (by rw [cpL_snd]; exact r1') (by rw [cpL_snd]; exact r1) s1' s1 (by rw [e60, e0]; decide))
  rw [e60, e0] at V
  simp (disch := omega) only [xm_rn, ci_n] at V
  refine ⟨_, V, ?_, fun q q1 q2 q3 => ?_, fun q q1 q2 => ?_, fun j hj => ?_, ?_, ?_, ?_, ?_⟩
  · simp only [xm_r2, ci_2, cpL_snd]
  · rw [xm_rn q1, xm_rn q1, xm_rn q1, ci_n q2, cpL_q q3]
  · rw [xm_rn (by omega), xm_rn (by omega), xm_rn (by omega), ci_n (by omega)]
  · rw [xm_rn (Ne.symm n2), xm_rn (Ne.symm n2), xm_rn (Ne.symm n2), ci_q hj, cpL_q n7]
  · rw [xm_rk (by decide), xm_rk (by decide), xm_ra, cpL_q n5]
  · rw [xm_rk (by decide), xm_ra, cpL_q n5]
  · rw [xm_ra, cpL_q n5]
  · rw [xm_rk (by decide), xm_rk (by decide), xm_rk (by decide), ci_n n2, cpL_q n4]
end OPS
