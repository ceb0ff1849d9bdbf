/-! feed. -/
theorem byte_nar (x : Int32) : vp_nar .byte x = x.toInt8.toInt32 := rfl
section OPS
variable {L : Nat} {xs : Nat → Int32} {d : Nat} {SI : (Nat → Nat → Int32) → (Nat → Nat → Int64) → Prop}
theorem Rel.tapeu {h h' : xm_H} (hr : Rel SI h) (h2 : h'.2 = h.2) (row : ∀ q, rl_cell q → q ≠ 2 → q ≠ 86 → h'.1 q = h.1 q) (r1 : ∀ j, j = 2 ∨ j = 3 → h'.1 1 j = h.1 1 j) (r82 : ∀ j, j = 12 ∨ j = 13 → h'.1 82 j = h.1 82 j) (htp : rl_tape h') : Rel SI h' := by
  obtain ⟨t, ht, hR, -, hf, hw, hli, hwk, him, hro, hsi⟩ := hr
  refine ⟨t, ht, by rw [h2]; exact hR, htp, ⟨?_, ?_⟩, ?_, ?_, ?_, fun k hk => ?_, fun s hs => ?_, ?_⟩
  · rw [r1 2 (by omega), r82 12 (by omega)]; exact hf.1
  · rw [r1 3 (by omega), r82 13 (by omega)]; exact hf.2
  · rw [row 83 (by unfold rl_cell; omega) (by omega) (by omega)]; exact hw
  · rw [row 83 (by unfold rl_cell; omega) (by omega) (by omega), row t (by unfold rl_cell; omega) (by omega) (by omega), row (t + 1) (by unfold rl_cell; omega) (by omega) (by omega), row (t + 2) (by unfold rl_cell; omega) (by omega) (by omega), row (t + 3) (by unfold rl_cell; omega) (by omega) (by omega), row (t + 4) (by unfold rl_cell; omega) (by omega) (by omega), row (t + 5) (by unfold rl_cell; omega) (by omega) (by omega), row (t + 6) (by unfold rl_cell; omega) (by omega) (by omega), row (t + 7) (by unfold rl_cell; omega) (by omega) (by omega)]
    exact hli
  · rw [row 83 (by unfold rl_cell; omega) (by omega) (by omega), row 3 (by unfold rl_cell; omega) (by omega) (by omega), row 4 (by unfold rl_cell; omega) (by omega) (by omega)]
    exact hwk
  · have h6 := him k hk
    have hrow : ∀ j, j < 10 → h'.1 (22 + 10 * k + j) = h.1 (22 + 10 * k + j) := fun j hj => row _ (by unfold rl_cell; omega) (by omega) (by omega)
    unfold rl_im at h6 ⊢
    rw [row 85 (by unfold rl_cell; omega) (by omega) (by omega), row 84 (by unfold rl_cell; omega) (by omega) (by omega)]
    simp only [hrow 0 (by omega), hrow 1 (by omega), hrow 2 (by omega), hrow 3 (by omega), hrow 4 (by omega), hrow 5 (by omega), hrow 6 (by omega), hrow 7 (by omega), hrow 8 (by omega), hrow 9 (by omega)]
    exact h6
  · have h6 := hro s hs
    unfold rl_row at h6 ⊢
    rw [row (53 + 2 * s) (by unfold rl_cell; omega) (by omega) (by omega), row 99 (by unfold rl_cell; omega) (by omega) (by omega), row 100 (by unfold rl_cell; omega) (by omega) (by omega), h2]
    exact h6
  · have e1 : (fun p => if p < 12 then h'.1 (61 + p) else fun _ => 0) = (fun p => if p < 12 then h.1 (61 + p) else fun _ => 0) := by
      funext p
      by_cases hp : p < 12
      · rw [if_pos hp, if_pos hp, row (61 + p) (by unfold rl_cell; omega) (by omega) (by omega)]
      · rw [if_neg hp, if_neg hp]
    rw [e1, h2]
    exact hsi
/-- byte k of four -/
def by4 (x : Int32) (k : Nat) : Int32 := vp_nar .byte ((x >>> (nI (24 - 8 * k) &&& 31)).toInt8.toInt32)
theorem v_add {h : xm_H} {t n : Nat} {x : Int32} (hR : h.2.2 = xm_R0 t) (ht : t = 5 ∨ t = 13) (e1 : h.1 1 1 = nI n) (hn : n + 4 ≤ 1000) : ∃ g, xm_V (xm_X0 L xs) xm_P (d + 8) 2 [.ref 1, .int x] h none g ∧ g.2 = h.2 ∧ (∀ q, q ≠ 1 → q ≠ 2 → g.1 q = h.1 q) ∧ g.1 1 1 = nI (n + 4) ∧ (∀ j, j ≠ 1 → g.1 1 j = h.1 1 j) ∧ (∀ j, j < n → g.1 2 j = h.1 2 j) ∧ (∀ k, k < 4 → g.1 2 (n + k) = by4 x k) := by
  have loop : ∀ m i (z : xm_H), m + i = 4 → z.2 = h.2 → (∀ q, q ≠ 1 → q ≠ 2 → z.1 q = h.1 q) → z.1 1 1 = nI (n + i) → (∀ j, j ≠ 1 → z.1 1 j = h.1 1 j) → (∀ j, j < n → z.1 2 j = h.1 2 j) → (∀ k, k < i → z.1 2 (n + k) = by4 x k) → ∃ g, xm_E (xm_X0 L xs) xm_P (d + 7) co_X6_add 2 [some (.ref 1), some (.int x), some (.int (if i = 4 then (-8 : Int32) else nI (24 - 8 * i)))] [] z none g ∧ g.2 = h.2 ∧ (∀ q, q ≠ 1 → q ≠ 2 → g.1 q = h.1 q) ∧ g.1 1 1 = nI (n + 4) ∧ (∀ j, j ≠ 1 → g.1 1 j = h.1 1 j) ∧ (∀ j, j < n → g.1 2 j = h.1 2 j) ∧ (∀ k, k < 4 → g.1 2 (n + k) = by4 x k) := by
    intro m
    induction m with
    | zero =>
      intro i z hm a1 a2 a3 a4 a5 a6
      have hic : i = 4 := by omega
      subst hic
      rw [if_pos rfl]
      exact ⟨z, s_X6_add_2_0 (d := d) (by decide), a1, a2, a3, a4, a5, a6⟩
    | succ m ih =>
      intro i z hm a1 a2 a3 a4 a5 a6
      have zR : z.2.2 = xm_R0 t := by rw [a1]; exact hR
      obtain ⟨g, b0, b⟩ := ih (i + 1) (xm_si (xm_si z 2 (n + i) (by4 x i)) 1 1 (nI (n + i + 1))) (by omega) a1 (fun q q1 q2 => by rw [xm_rn q1, xm_rn q2]; exact a2 q q1 q2) xm_ra (fun j hj => by rw [xm_rk hj, xm_rn (by decide)]; exact a4 j hj) (fun j hj => by rw [xm_rn (by decide), xm_rk (by omega)]; exact a5 j hj) (fun k hk => by
        rw [xm_rn (by decide)]
        by_cases hki : k = i
        · subst hki
          exact xm_ra
        · rw [xm_rk (by omega)]
          exact a6 k (by omega))
      refine ⟨g, ?_, b⟩
      have hi4 : i < 4 := by omega
      rw [if_neg (by omega)]
      have E := s_X6_add_2_2 (L := L) (xs := xs) (d := d) (h := z) (t := t) (l1 := x) (l2 := nI (24 - 8 * i)) (ro := none) (ho := g) zR ht (nI_pos (by omega)) (by rw [a3]; exact nI_ge (b := 1000) (by omega) (by omega)) (by rw [a3]; exact nI_in (by omega) (by omega))
      apply E
      rw [xm_rn (show (1 : Nat) ≠ 2 by decide), a3, nI_clamp (by omega), nI_1]
      have e8 : nI (24 - 8 * i) + (-8 : Int32) = (if i + 1 = 4 then (-8 : Int32) else nI (24 - 8 * (i + 1))) := by
        have : i = 0 ∨ i = 1 ∨ i = 2 ∨ i = 3 := by omega
        rcases this with rfl | rfl | rfl | rfl <;> decide
      rw [e8]
      exact b0
  obtain ⟨g, b0, b⟩ := loop 4 0 h (by omega) rfl (fun _ _ _ => rfl) e1 (fun _ _ => rfl) (fun _ _ => rfl) (fun k hk => absurd hk (by omega))
  exact ⟨g, v_X6_add (d := d + 7) (s_X6_add_0_0 (d := d) b0), b⟩
theorem sh_tab : ∀ k, k < 20 → (((24 : Int32) - ((8 : Int32) * (nI k - nI k / (4 : Int32) * (4 : Int32)))) = nI (24 - 8 * (k % 4))) ∧ ((nI k / (4 : Int32)).toNatClampNeg = k / 4) ∧ ¬ (nI k / (4 : Int32) < 0 ∨ 5 ≤ (nI k / (4 : Int32)).toNatClampNeg) := by decide +kernel
theorem op_feed (a b c e f : Int32) : xm_opi (xm_X0 L xs) (d + 20) (Rel SI) 0 193 [.int a, .int b, .int c, .int e, .int f] := by
  intro h hr
  have hr0 := hr
  obtain ⟨t, ht, hR, ⟨n, hn, h1, h5, hb⟩, -⟩ := hr
  have n0 : ¬ (1 : Int32) = 0 := by decide
  by_cases hc : n + 20 ≤ 1000
  · have hs : F_X6_hasSpace h t = 1 := by
      unfold F_X6_hasSpace
      rw [h1, show (20 : Int32) = nI 20 from rfl, nI_add, if_neg (show ¬ (1000 : Int32) < nI (n + 20) from nI_nlt (a := 1000) hc (by omega))]
    obtain ⟨g1, V1, p1, q1, s1, t1, u1, w1⟩ := v_add (L := L) (xs := xs) (d := d + 11) (x := a) hR ht h1 (by omega)
    have R1 : g1.2.2 = xm_R0 t := by rw [p1]; exact hR
    obtain ⟨g2, V2, p2, q2', s2, t2, u2, w2⟩ := v_add (L := L) (xs := xs) (d := d + 11) (x := b) R1 ht s1 (by omega)
    have R2 : g2.2.2 = xm_R0 t := by rw [p2]; exact R1
    obtain ⟨g3, V3, p3, q3, s3, t3, u3, w3⟩ := v_add (L := L) (xs := xs) (d := d + 11) (x := c) R2 ht s2 (by omega)
    have R3 : g3.2.2 = xm_R0 t := by rw [p3]; exact R2
    obtain ⟨g4, V4, p4, q4, s4, t4, u4, w4⟩ := v_add (L := L) (xs := xs) (d := d + 11) (x := e) R3 ht s3 (by omega)
    have R4 : g4.2.2 = xm_R0 t := by rw [p4]; exact R3
    obtain ⟨g5, V5, p5, q5, s5, t5, u5, w5⟩ := v_add (L := L) (xs := xs) (d := d + 11) (x := f) R4 ht s4 (by omega)
    have R5 : g5.2.2 = xm_R0 t := by rw [p5]; exact R4
    have W1 := v_X10_feed (d := d + 19) (s_X10_feed_0_1 (L := L) (xs := xs) (d := d + 12) hR ht (by rw [hs]; exact n0) V1 R1 V2 R2 V3 R3 V4 R4 V5 R5)
    rw [s5] at W1
    have e5 : g5.2 = h.2 := by rw [p5, p4, p3, p2, p1]
    have gq : ∀ q, q ≠ 1 → q ≠ 2 → g5.1 q = h.1 q := fun q z1 z2 => by rw [q5 q z1 z2, q4 q z1 z2, q3 q z1 z2, q2' q z1 z2, q1 q z1 z2]
    let x5 : Nat → Int32 := fun i => if i = 0 then a else if i = 1 then b else if i = 2 then c else if i = 3 then e else f
    have gb : ∀ k, k < 20 → g5.1 2 (n + k) = by4 (x5 (k / 4)) (k % 4) := by
      intro k hk
      by_cases z0 : k < 4
      · rw [u5 _ (by omega), u4 _ (by omega), u3 _ (by omega), u2 _ (by omega), w1 k z0, show k / 4 = 0 by omega, show k % 4 = k by omega]
        rfl
      · by_cases z1 : k < 8
        · rw [u5 _ (by omega), u4 _ (by omega), u3 _ (by omega), show n + k = n + 4 + (k - 4) by omega, w2 _ (by omega), show k / 4 = 1 by omega, show k % 4 = k - 4 by omega]
          rfl
        · by_cases z2 : k < 12
          · rw [u5 _ (by omega), u4 _ (by omega), show n + k = n + 4 + 4 + (k - 8) by omega, w3 _ (by omega), show k / 4 = 2 by omega, show k % 4 = k - 8 by omega]
            rfl
          · by_cases z3 : k < 16
            · rw [u5 _ (by omega), show n + k = n + 4 + 4 + 4 + (k - 12) by omega, w4 _ (by omega), show k / 4 = 3 by omega, show k % 4 = k - 12 by omega]
              rfl
            · rw [show n + k = n + 4 + 4 + 4 + 4 + (k - 16) by omega, w5 _ (by omega), show k / 4 = 4 by omega, show k % 4 = k - 16 by omega]
              rfl
    have go : ∀ j, j < n → g5.1 2 j = h.1 2 j := fun j hj => by rw [u5 j (by omega), u4 j (by omega), u3 j (by omega), u2 j (by omega), u1 j hj]
    have e82 : g5.1 82 5 = nI n := by rw [gq 82 (by decide) (by decide)]; exact h5
    let y : xm_H := xm_si (xm_si (xm_si (xm_si (xm_si g5 87 0 a) 87 1 b) 87 2 c) 87 3 e) 87 4 f
    have yq : ∀ q, q ≠ 87 → y.1 q = g5.1 q := fun q hq => by
      show (xm_si (xm_si (xm_si (xm_si (xm_si g5 87 0 a) 87 1 b) 87 2 c) 87 3 e) 87 4 f).1 q = g5.1 q
      rw [xm_rn hq, xm_rn hq, xm_rn hq, xm_rn hq, xm_rn hq]
    have yf : ∀ i, i < 5 → y.1 87 i = x5 i := by
      intro i hi
      have : i = 0 ∨ i = 1 ∨ i = 2 ∨ i = 3 ∨ i = 4 := by omega
      show (xm_si (xm_si (xm_si (xm_si (xm_si g5 87 0 a) 87 1 b) 87 2 c) 87 3 e) 87 4 f).1 87 i = x5 i
      rcases this with rfl | rfl | rfl | rfl | rfl
      all_goals simp (disch := omega) only [xm_ra, xm_rk]
      all_goals rfl
    have loop : ∀ m i (z : xm_H), m + i = 20 → z.2 = h.2 → (∀ q, q ≠ 86 → z.1 q = y.1 q) → (∀ j, j < n → z.1 86 j = h.1 86 j) → (∀ k, k < i → z.1 86 (n + k) = by4 (x5 (k / 4)) (k % 4)) → ∃ z', xm_E (xm_X0 L xs) xm_P (d + 19) co_X11_feed 35 [some (.ref 82), some (.int a), some (.int b), some (.int c), some (.int e), some (.int f), some (.int (nI i))] [] z (some (.int (nI (n + 20)))) (xm_si z' 82 5 (nI (n + 20))) ∧ z'.2 = h.2 ∧ (∀ q, q ≠ 86 → z'.1 q = y.1 q) ∧ (∀ j, j < n → z'.1 86 j = h.1 86 j) ∧ (∀ k, k < 20 → z'.1 86 (n + k) = by4 (x5 (k / 4)) (k % 4)) := by
      intro m
      induction m with
      | zero =>
        intro i z hm a1 a2 a3 a4
        have hic : i = 20 := by omega
        subst hic
        have ez : z.1 82 5 = nI n := by rw [a2 82 (by decide), yq 82 (by decide)]; exact e82
        have E := s_X11_feed_35_0 (L := L) (xs := xs) (d := d + 12) (h := z) (l1 := a) (l2 := b) (l3 := c) (l4 := e) (l5 := f) (l6 := nI 20) (by decide)
        rw [xm_ra, ez, show (20 : Int32) = nI 20 from rfl, nI_add] at E
        exact ⟨z, E, a1, a2, a3, a4⟩
      | succ m ih =>
        intro i z hm a1 a2 a3 a4
        have zR : z.2.2 = xm_R0 t := by rw [a1]; exact hR
        have ez : z.1 82 5 = nI n := by rw [a2 82 (by decide), yq 82 (by decide)]; exact e82
        obtain ⟨t1', t2', t3'⟩ := sh_tab i (by omega)
        obtain ⟨z', b0, b'⟩ := ih (i + 1) (xm_si z 86 (n + i) (by4 (x5 (i / 4)) (i % 4))) (by omega) a1 (fun q hq => by rw [xm_rn hq]; exact a2 q hq) (fun j hj => by rw [xm_rk (by omega)]; exact a3 j hj) (fun k hk => by
          by_cases hki : k = i
          · subst hki
            exact xm_ra
          · rw [xm_rk (by omega)]
            exact a4 k (by omega))
        refine ⟨z', ?_, b'⟩
        refine s_X11_feed_35_1 (d := d + 12) zR ht (nI_ge (b := 20) (by omega) (by omega)) t3' (by rw [ez, nI_add]; exact nI_in (by omega) (by omega)) ?_
        rw [t1', t2', a2 87 (by decide), yf _ (by omega), ez, nI_add, nI_clamp (by omega), nI_1]
        exact b0
    obtain ⟨z', b0, b1, b2, b3, b4⟩ := loop 20 0 y (by omega) (by show g5.2 = h.2; exact e5) (fun _ _ => rfl) (fun j hj => by rw [yq 86 (by decide), gq 86 (by decide) (by decide)]) (fun k hk => absurd hk (by omega))
    have W2 := v_X11_feed (d := d + 19) (s_X11_feed_0_0 (L := L) (xs := xs) (d := d + 12) (h := g5) (t := t) (l1 := a) (l2 := b) (l3 := c) (l4 := e) (l5 := f) R5 ht (by rw [e82, show (20 : Int32) = nI 20 from rfl, nI_add]; exact nI_le (b := 1000) hc (by omega)) b0)
    refine ⟨_, _, _, W1, W2, ?_⟩
    have zq : ∀ q, q ≠ 82 → q ≠ 86 → q ≠ 87 → (xm_si z' 82 5 (nI (n + 20))).1 q = g5.1 q := fun q z1 z2 z3 => by rw [xm_rn z1, b2 q z2, yq q z3]
    refine hr0.tapeu b1 (fun q hq z2 z86 => ?_) (fun j hj => ?_) (fun j hj => ?_) ⟨n + 20, by omega, ?_, xm_ra, fun j hj => ?_⟩
    · have h1' : q ≠ 82 ∧ q ≠ 87 ∧ q ≠ 1 := by unfold rl_cell at hq; omega
      rw [zq q h1'.1 z86 h1'.2.1, gq q h1'.2.2 z2]
    · rw [zq 1 (by decide) (by decide) (by decide), t5 j (by omega), t4 j (by omega), t3 j (by omega), t2 j (by omega), t1 j (by omega)]
    · rw [xm_rk (by omega), b2 82 (by decide), yq 82 (by decide), gq 82 (by decide) (by decide)]
    · rw [zq 1 (by decide) (by decide) (by decide), s5]
    · rw [zq 2 (by decide) (by decide) (by decide), xm_rn (by decide)]
      by_cases hj2 : j < n
      · rw [go j hj2, b3 j hj2]
        exact hb j hj2
      · rw [show j = n + (j - n) by omega, gb (j - n) (by omega), b4 (j - n) (by omega)]
        exact ⟨rfl, _, byte_nar _⟩
  · have hs : F_X6_hasSpace h t = 0 := by
      unfold F_X6_hasSpace
      rw [h1, show (20 : Int32) = nI 20 from rfl, nI_add, if_pos (show (1000 : Int32) < nI (n + 20) from nI_lt (a := 1000) (by omega) (by omega))]
    exact ⟨_, _, _, v_X10_feed (d := d + 19) (s_X10_feed_0_0 (d := d + 12) hR ht hs), v_X11_feed (d := d + 19) (s_X11_feed_0_1 (d := d + 12) (by rw [h5, show (20 : Int32) = nI 20 from rfl, nI_add]; exact nI_ge (a := 1000) (by omega) (by omega))), hr0⟩
end OPS
