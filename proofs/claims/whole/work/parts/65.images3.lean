/-! image, back. -/
section OPS
variable {L : Nat} {xs : Nat → Int32} {d : Nat} {SI : (Nat → Nat → Int32) → (Nat → Nat → Int64) → Prop}
theorem Rel.imgu {h h' : xm_H} {k : Nat} (hr : Rel SI h) (hk3 : k < 3) (h2 : h'.2 = h.2) (row : ∀ q, rl_cell q → (q < 22 + 10 * k ∨ 22 + 10 * k + 9 < q) → q ≠ 84 → q ≠ 85 → h'.1 q = h.1 q) (r1 : ∀ j, j = 1 ∨ j = 2 ∨ j = 3 → h'.1 1 j = h.1 1 j) (r82 : ∀ j, j = 5 ∨ j = 12 ∨ j = 13 → h'.1 82 j = h.1 82 j) (hi : rl_im (h'.1 85) (h'.1 84) k (fun j => h'.1 (22 + 10 * k + j))) (ho : ∀ k', k' < 3 → k' ≠ k → h'.1 85 k' = h.1 85 k' ∧ ∀ j, j < 110 → h'.1 84 (110 * k' + j) = h.1 84 (110 * k' + j)) : Rel SI h' := by
  obtain ⟨t, ht, hR, ⟨n, hn', h1, h5, hb⟩, hf, hw, hli, hwk, him, hro, hsi⟩ := hr
  refine ⟨t, ht, by rw [h2]; exact hR, ⟨n, hn', (r1 1 (by omega)).trans h1, (r82 5 (by omega)).trans h5, fun j hj => ?_⟩, ⟨?_, ?_⟩, ?_, ?_, ?_, fun k' hk' => ?_, fun u hu => ?_, ?_⟩
  · rw [row 2 (by unfold rl_cell; omega) (by omega) (by omega) (by omega), row 86 (by unfold rl_cell; omega) (by omega) (by omega) (by omega)]
    exact hb j hj
  · rw [r1 2 (by omega), r82 12 (by omega)]; exact hf.1
  · rw [r1 3 (by omega), r82 13 (by omega)]; exact hf.2
  · rw [row 83 (by unfold rl_cell; omega) (by omega) (by omega) (by omega)]
    exact hw
  · rw [row 83 (by unfold rl_cell; omega) (by omega) (by omega) (by omega), row t (by unfold rl_cell; omega) (by omega) (by omega) (by omega), row (t + 1) (by unfold rl_cell; omega) (by omega) (by omega) (by omega), row (t + 2) (by unfold rl_cell; omega) (by omega) (by omega) (by omega), row (t + 3) (by unfold rl_cell; omega) (by omega) (by omega) (by omega), row (t + 4) (by unfold rl_cell; omega) (by omega) (by omega) (by omega), row (t + 5) (by unfold rl_cell; omega) (by omega) (by omega) (by omega), row (t + 6) (by unfold rl_cell; omega) (by omega) (by omega) (by omega), row (t + 7) (by unfold rl_cell; omega) (by omega) (by omega) (by omega)]
    exact hli
  · rw [row 83 (by unfold rl_cell; omega) (by omega) (by omega) (by omega), row 3 (by unfold rl_cell; omega) (by omega) (by omega) (by omega), row 4 (by unfold rl_cell; omega) (by omega) (by omega) (by omega)]
    exact hwk
  · by_cases hkk : k' = k
    · subst hkk
      exact hi
    · have h6 := him k' hk'
      obtain ⟨o1, o2⟩ := ho k' hk' hkk
      have hs : wsm (fun j => h.1 84 (110 * k' + j)) (fun j => h'.1 84 (110 * k' + j)) := fun j hj => o2 j hj
      have hrow : ∀ j, j < 10 → h'.1 (22 + 10 * k' + j) = h.1 (22 + 10 * k' + j) := fun j hj => row _ (by unfold rl_cell; omega) (by omega) (by omega) (by omega)
      unfold rl_im at h6 ⊢
      simp only [hrow 0 (by omega), hrow 1 (by omega), hrow 2 (by omega), hrow 3 (by omega), hrow 4 (by omega), hrow 5 (by omega), hrow 6 (by omega), hrow 7 (by omega), hrow 8 (by omega), hrow 9 (by omega), o1]
      rcases h6 with h6 | ⟨z1, z2, z3, z4, z5⟩
      · exact Or.inl h6
      · exact Or.inr ⟨z1, z2, rl_wf_s hs z3, rl_lin_s hs z4, rl_wk_s hs z3 z5⟩
  · have h6 := hro u hu
    unfold rl_row at h6 ⊢
    rw [row (53 + 2 * u) (by unfold rl_cell; omega) (by omega) (by omega) (by omega), row 99 (by unfold rl_cell; omega) (by omega) (by omega) (by omega), row 100 (by unfold rl_cell; omega) (by omega) (by omega) (by omega), h2]
    exact h6
  · have e1 : (fun p => if p < 12 then h'.1 (61 + p) else fun _ => 0) = (fun p => if p < 12 then h.1 (61 + p) else fun _ => 0) := by
      funext p
      by_cases hp : p < 12
      · rw [if_pos hp, if_pos hp, row (61 + p) (by unfold rl_cell; omega) (by omega) (by omega) (by omega)]
      · rw [if_neg hp, if_neg hp]
    rw [e1, h2]
    exact hsi
theorem Rel.worku {h h' : xm_H} {t : Nat} (hr : Rel SI h) (ht : t = 5 ∨ t = 13) (hR : h.2.2 = xm_R0 t) (h2 : h'.2 = h.2) (row : ∀ q, rl_cell q → q ≠ 3 → q ≠ 4 → q ≠ 83 → (q < t ∨ t + 7 < q) → h'.1 q = h.1 q) (r1 : ∀ j, j = 1 ∨ j = 2 ∨ j = 3 → h'.1 1 j = h.1 1 j) (r82 : ∀ j, j = 5 ∨ j = 12 ∨ j = 13 → h'.1 82 j = h.1 82 j) (hwf : rl_wf (h'.1 83)) (hli' : rl_lin (h'.1 t) (h'.1 (t + 1)) (h'.1 (t + 2)) (h'.1 (t + 3)) (h'.1 (t + 4)) (h'.1 (t + 5)) (h'.1 (t + 6)) (h'.1 (t + 7)) (h'.1 83)) (hwk' : rl_wk (h'.1 3) (h'.1 4) (h'.1 83)) : Rel SI h' := by
  obtain ⟨t', ht', hR', ⟨n, hn', h1, h5, hb⟩, hf, hw, hli, hwk, him, hro, hsi⟩ := hr
  have ett : t' = t := R0_inj (hR'.symm.trans hR)
  subst ett
  refine ⟨t', ht, by rw [h2]; exact hR, ⟨n, hn', (r1 1 (by omega)).trans h1, (r82 5 (by omega)).trans h5, fun j hj => ?_⟩, ⟨?_, ?_⟩, hwf, hli', hwk', fun k' hk' => ?_, fun u hu => ?_, ?_⟩
  · rw [row 2 (by unfold rl_cell; omega) (by omega) (by omega) (by omega) (by omega), row 86 (by unfold rl_cell; omega) (by omega) (by omega) (by omega) (by omega)]
    exact hb j hj
  · rw [r1 2 (by omega), r82 12 (by omega)]; exact hf.1
  · rw [r1 3 (by omega), r82 13 (by omega)]; exact hf.2
  · have h6 := him k' hk'
    have hrow : ∀ j, j < 10 → h'.1 (22 + 10 * k' + j) = h.1 (22 + 10 * k' + j) := fun j hj => row _ (by unfold rl_cell; omega) (by omega) (by omega) (by omega) (by omega)
    unfold rl_im at h6 ⊢
    rw [row 85 (by unfold rl_cell; omega) (by omega) (by omega) (by omega) (by omega), row 84 (by unfold rl_cell; omega) (by omega) (by omega) (by omega) (by omega)]
    simp only [hrow 0 (by omega), hrow 1 (by omega), hrow 2 (by omega), hrow 3 (by omega), hrow 4 (by omega), hrow 5 (by omega), hrow 6 (by omega), hrow 7 (by omega), hrow 8 (by omega), hrow 9 (by omega)]
    exact h6
  · have h6 := hro u hu
    unfold rl_row at h6 ⊢
    rw [row (53 + 2 * u) (by unfold rl_cell; omega) (by omega) (by omega) (by omega) (by omega), row 99 (by unfold rl_cell; omega) (by omega) (by omega) (by omega) (by omega), row 100 (by unfold rl_cell; omega) (by omega) (by omega) (by omega) (by omega), h2]
    exact h6
  · have e1 : (fun p => if p < 12 then h'.1 (61 + p) else fun _ => 0) = (fun p => if p < 12 then h.1 (61 + p) else fun _ => 0) := by
      funext p
      by_cases hp : p < 12
      · rw [if_pos hp, if_pos hp, row (61 + p) (by unfold rl_cell; omega) (by omega) (by omega) (by omega) (by omega)]
      · rw [if_neg hp, if_neg hp]
    rw [e1, h2]
    exact hsi
theorem im_ref {h : xm_H} {t k : Nat} (hR : h.2.2 = xm_R0 t) (hk : k < 3) : h.2.2 21 (nI k).toNatClampNeg = some (22 + 10 * k) ∧ h.2.2 (22 + 10 * k) 0 = some (24 + 10 * k) ∧ h.2.2 (22 + 10 * k) 1 = some (23 + 10 * k) ∧ h.2.2 3 0 = some t ∧ h.2.2 3 1 = some 4 := by
  rw [nI_clamp (by omega), hR]
  have : k = 0 ∨ k = 1 ∨ k = 2 := by omega
  rcases this with rfl | rfl | rfl <;> exact ⟨rfl, rfl, rfl, rfl, rfl⟩
theorem im_sh {k : Nat} (hk : k < 3) : (xm_X0 L xs).1[22 + 10 * k]? = some (.inr 8) ∧ (xm_X0 L xs).1[23 + 10 * k]? = some (.inl (0, 60)) ∧ (xm_X0 L xs).1[3]? = some (.inr 8) ∧ (xm_X0 L xs).1[4]? = some (.inl (0, 60)) ∧ isL (24 + 10 * k) := by
  have : k = 0 ∨ k = 1 ∨ k = 2 := by omega
  rcases this with rfl | rfl | rfl <;> exact ⟨rfl, rfl, rfl, rfl, by unfold isL; omega⟩
theorem ix_110 (k i : Nat) : ((110 : Int32) * nI k) + nI i = nI (110 * k + i) := by rw [show (110 : Int32) = nI 110 from rfl, nm_mul, nI_add]
theorem op_image (a : Int32) : xm_opi (xm_X0 L xs) (d + 20) (Rel SI) 175 190 [.int a] := by
  intro h hr
  obtain ⟨t, ht, hR, hw, hli, hwk⟩ := hr.opn
  have n0 : ¬ (1 : Int32) = 0 := by decide
  by_cases hs : nb a 0 2
  · have m1 : ¬ F_X10_isImage a = 0 := by rw [(x_isImage a).1 hs]; exact n0
    have m2 : ¬ F_X11_in a.toInt64 (0 : Int64) (2 : Int64) = 0 := by rw [(in_0_2 a).1 hs]; exact n0
    obtain ⟨k, -, hk2, rfl⟩ := hs
    have k3 : k < 3 := by omega
    have hlt : isL t := by unfold isL; omega
    obtain ⟨i0, i1, i2, i3, i4⟩ := im_ref hR k3
    obtain ⟨j0, j1, j2, j3, j4⟩ := im_sh (L := L) (xs := xs) k3
    obtain ⟨g, V, g2, gq, gl, ga, g_2, g_3, g_4, g_5⟩ := v_copyW (L := L) (xs := xs) (d := d + 9) (p := 22 + 10 * k) (a := 23 + 10 * k) (l := 24 + 10 * k) (p' := 3) (a' := 4) (l' := t) hR j4 hlt (by omega) j0 j2 j1 j3 i1 i3 i2 i4 (by omega) (by omega) (by omega) (by omega) (by omega) (by omega) (by omega)
    have gR : g.2.2 = xm_R0 t := by rw [g2]; exact hR
    obtain ⟨y0, -⟩ := im_ref gR k3
    have gi : ¬ (nI k < 0 ∨ 3 ≤ (nI k).toNatClampNeg) := nI_in (by omega) (by omega)
    have W1 := v_X10_image (d := d + 19) (s_X10_image_0_1 (L := L) (xs := xs) (d := d + 12) hR ht m1 gi i0 V j0 gR y0 j0)
    let g' : xm_H := xm_si g (22 + 10 * k) 5 (1 : Int32)
    have g'q : ∀ q, (q < 22 + 10 * k ∨ 22 + 10 * k + 9 < q) → g'.1 q = h.1 q := fun q hq => by
      show (xm_si g (22 + 10 * k) 5 (1 : Int32)).1 q = h.1 q
      rw [xm_rn (by omega), gq q (by omega) (by omega) (by omega)]
    have lp : ∀ n i (z : xm_H), n + i = 110 → z.2 = h.2 → (∀ q, q ≠ 84 → z.1 q = g'.1 q) → (∀ j, j < i → z.1 84 (110 * k + j) = h.1 83 j) → (∀ j, (j < 110 * k ∨ 110 * k + 110 ≤ j) → z.1 84 j = h.1 84 j) → ∃ z', xm_E (xm_X0 L xs) xm_P (d + 19) co_X11_image 10 [some (.ref 82), some (.int (nI k)), some (.int (nI i))] [] z (some (.int 0)) (xm_si z' 85 k (vp_nar .boolean (1 : Int32))) ∧ z'.2 = h.2 ∧ (∀ q, q ≠ 84 → z'.1 q = g'.1 q) ∧ (∀ j, j < 110 → z'.1 84 (110 * k + j) = h.1 83 j) ∧ (∀ j, (j < 110 * k ∨ 110 * k + 110 ≤ j) → z'.1 84 j = h.1 84 j) := by
      intro n
      induction n with
      | zero =>
        intro i z hn a1 a2 a3 a4
        have hic : i = 110 := by omega
        subst hic
        have E := s_X11_image_10_0 (L := L) (xs := xs) (d := d + 12) (h := z) (t := t) (l1 := nI k) (l2 := nI 110) (by rw [a1]; exact hR) ht (by decide) gi
        rw [nI_clamp (by omega)] at E
        exact ⟨z, E, a1, a2, a3, a4⟩
      | succ n ih =>
        intro i z hn a1 a2 a3 a4
        have zR : z.2.2 = xm_R0 t := by rw [a1]; exact hR
        have z83 : z.1 83 = h.1 83 := by rw [a2 83 (by decide), g'q 83 (by omega)]
        obtain ⟨z', b0, b⟩ := ih (i + 1) (xm_si z 84 (110 * k + i) (h.1 83 i)) (by omega) a1 (fun q hq => by rw [xm_rn hq]; exact a2 q hq) (fun j hj => by
          by_cases hji : j = i
          · subst hji
            exact xm_ra
          · rw [xm_rk (by omega)]
            exact a3 j (by omega)) (fun j hj => by rw [xm_rk (by omega)]; exact a4 j hj)
        refine ⟨z', ?_, b⟩
        refine s_X11_image_10_1 (d := d + 12) zR ht (nI_ge (b := 110) (by omega) (by omega)) (nI_in (by omega) (by omega)) (by rw [ix_110]; exact nI_in (by omega) (by omega)) ?_
        rw [ix_110, nI_clamp (by omega), nI_clamp (by omega), nI_1, z83]
        exact b0
    obtain ⟨z', b0, b1, b2, b3, b4⟩ := lp 110 0 g' (by omega) (by show g.2 = h.2; exact g2) (fun _ _ => rfl) (fun j hj => absurd hj (by omega)) (fun j hj => by rw [g'q 84 (by omega)])
    have W2 := v_X11_image (d := d + 19) (s_X11_image_0_1 (L := L) (xs := xs) (d := d + 12) (h := g') (l1 := nI k) m2 b0)
    refine ⟨_, _, _, W1, W2, ?_⟩
    have ev : vp_nar .boolean (1 : Int32) = 1 := by decide
    rw [ev]
    have zq : ∀ q, q ≠ 84 → q ≠ 85 → (xm_si z' 85 k 1).1 q = g'.1 q := fun q q1 q2 => by rw [xm_rn q2, b2 q q1]
    have z84 : (xm_si z' 85 k 1).1 84 = z'.1 84 := xm_rn (by decide)
    have hs : wsm (h.1 83) (fun j => (xm_si z' 85 k 1).1 84 (110 * k + j)) := fun j hj => by
      show (xm_si z' 85 k 1).1 84 (110 * k + j) = h.1 83 j
      rw [z84, b3 j hj]
    refine hr.imgu k3 b1 (fun q _ q1 q2 q3 => by rw [zq q q2 q3, g'q q q1]) (fun j _ => by rw [zq 1 (by decide) (by decide), g'q 1 (by omega)]) (fun j _ => by rw [zq 82 (by decide) (by decide), g'q 82 (by omega)]) ?_ (fun k' hk' hkk => ⟨?_, fun j hj => ?_⟩)
    · have cell : ∀ j, j < 10 → (xm_si z' 85 k 1).1 (22 + 10 * k + j) = g'.1 (22 + 10 * k + j) := fun j hj => zq _ (by omega) (by omega)
      have hap := apL_of hlt j4 (by omega)
      have cl : ∀ j, 1 ≤ j → j < 10 → g'.1 (22 + 10 * k + j) = g.1 (22 + 10 * k + j) := fun j h1 h2 => xm_rn (by omega)
      have cL : ∀ j, j < 8 → g'.1 (22 + 10 * k + (2 + j)) = (cpL h t (24 + 10 * k)).1 (24 + 10 * k + j) := fun j hj => by
        rw [cl (2 + j) (by omega) (by omega), show 22 + 10 * k + (2 + j) = 24 + 10 * k + j by omega, gl _ (by omega) (by omega)]
      right
      show (xm_si z' 85 k 1).1 (22 + 10 * k + 0) 5 = 1 ∧ (xm_si z' 85 k 1).1 85 k = 1 ∧ rl_wf (fun j => (xm_si z' 85 k 1).1 84 (110 * k + j)) ∧ rl_lin ((xm_si z' 85 k 1).1 (22 + 10 * k + 2)) ((xm_si z' 85 k 1).1 (22 + 10 * k + 3)) ((xm_si z' 85 k 1).1 (22 + 10 * k + 4)) ((xm_si z' 85 k 1).1 (22 + 10 * k + 5)) ((xm_si z' 85 k 1).1 (22 + 10 * k + 6)) ((xm_si z' 85 k 1).1 (22 + 10 * k + 7)) ((xm_si z' 85 k 1).1 (22 + 10 * k + 8)) ((xm_si z' 85 k 1).1 (22 + 10 * k + 9)) (fun j => (xm_si z' 85 k 1).1 84 (110 * k + j)) ∧ rl_wk ((xm_si z' 85 k 1).1 (22 + 10 * k + 0)) ((xm_si z' 85 k 1).1 (22 + 10 * k + 1)) (fun j => (xm_si z' 85 k 1).1 84 (110 * k + j))
      rw [cell 0 (by omega), cell 1 (by omega), cell 2 (by omega), cell 3 (by omega), cell 4 (by omega), cell 5 (by omega), cell 6 (by omega), cell 7 (by omega), cell 8 (by omega), cell 9 (by omega)]
      refine ⟨xm_ra, xm_ra, rl_wf_s hs hw, rl_lin_s hs (rl_lin_f (fun j hj => ?_) (fun j hj => ?_) (fun j hj => ?_) (fun j hj => ?_) (fun j hj => ?_) (fun j hj => ?_) (fun j hj => ?_) (fun j hj => ?_) hli), rl_wk_s hs hw (rl_wk_f ?_ ?_ ?_ (fun j hj => ?_) hwk)⟩
      · rw [show (2 : Nat) = 2 + 0 from rfl, cL 0 (by omega)]; exact cpL_0 hap hj
      · rw [show (3 : Nat) = 2 + 1 from rfl, cL 1 (by omega)]; exact cpL_1 hap hj
      · rw [show (4 : Nat) = 2 + 2 from rfl, cL 2 (by omega)]; exact cpL_2 hap hj
      · rw [show (5 : Nat) = 2 + 3 from rfl, cL 3 (by omega)]; exact cpL_3 hap hj
      · rw [show (6 : Nat) = 2 + 4 from rfl, cL 4 (by omega)]; exact cpL_4 hap hj
      · rw [show (7 : Nat) = 2 + 5 from rfl, cL 5 (by omega)]; exact cpL_5 hap hj
      · rw [show (8 : Nat) = 2 + 6 from rfl, cL 6 (by omega)]; exact cpL_6 hap hj
      · rw [show (9 : Nat) = 2 + 7 from rfl, cL 7 (by omega)]; exact cpL_7 hap hj
      · show (xm_si g (22 + 10 * k) 5 1).1 (22 + 10 * k) 2 = h.1 3 2
        rw [xm_rk (by decide), g_2]
      · show (xm_si g (22 + 10 * k) 5 1).1 (22 + 10 * k) 3 = h.1 3 3
        rw [xm_rk (by decide), g_3]
      · show (xm_si g (22 + 10 * k) 5 1).1 (22 + 10 * k) 4 = h.1 3 4
        rw [xm_rk (by decide), g_4]
      · rw [cl 1 (by omega) (by omega), show 22 + 10 * k + 1 = 23 + 10 * k by omega]
        exact ga j hj
    · rw [xm_rk hkk, b2 85 (by decide), g'q 85 (by omega)]
    · rw [z84, b4 _ (by omega)]
  · exact ⟨_, _, _, v_X10_image (d := d + 19) (s_X10_image_0_0 (d := d + 12) ((x_isImage a).2 hs)), v_X11_image (d := d + 19) (s_X11_image_0_0 (d := d + 12) ((in_0_2 a).2 hs)), hr⟩
theorem Rel.images {h : xm_H} (hr : Rel SI h) : ∀ k, k < 3 → rl_im (h.1 85) (h.1 84) k (fun j => h.1 (22 + 10 * k + j)) := by
  obtain ⟨t, ht, hR, -, -, hw, hli, hwk, him, -⟩ := hr
  exact him
theorem op_back (a : Int32) : xm_opi (xm_X0 L xs) (d + 20) (Rel SI) 181 192 [.int a] := by
  intro h hr
  obtain ⟨t, ht, hR, hw, hli, hwk⟩ := hr.opn
  have n0 : ¬ (1 : Int32) = 0 := by decide
  by_cases hs : nb a 0 2
  · have m1 : ¬ F_X10_isImage a = 0 := by rw [(x_isImage a).1 hs]; exact n0
    have m2 : ¬ F_X11_in a.toInt64 (0 : Int64) (2 : Int64) = 0 := by rw [(in_0_2 a).1 hs]; exact n0
    obtain ⟨k, -, hk2, rfl⟩ := hs
    have k3 : k < 3 := by omega
    have hlt : isL t := by unfold isL; omega
    obtain ⟨i0, i1, i2, i3, i4⟩ := im_ref hR k3
    obtain ⟨j0, j1, j2, j3, j4⟩ := im_sh (L := L) (xs := xs) k3
    have gi : ¬ (nI k < 0 ∨ 3 ≤ (nI k).toNatClampNeg) := nI_in (by omega) (by omega)
    have ec : (nI k).toNatClampNeg = k := nI_clamp (by omega)
    rcases hr.images k k3 with ⟨z1, z2⟩ | ⟨z1, z2, z3, z4, z5⟩
    · exact ⟨_, _, _, v_X10_back (d := d + 19) (s_X10_back_0_1 (d := d + 12) hR ht m1 gi i0 j0 z1), v_X11_back (d := d + 19) (s_X11_back_0_1 (d := d + 12) hR ht m2 gi (by rw [ec]; exact z2)), hr⟩
    · obtain ⟨g, V, g2, gq, gl, ga, g_2, g_3, g_4, g_5⟩ := v_copyW (L := L) (xs := xs) (d := d + 9) (p := 3) (a := 4) (l := t) (p' := 22 + 10 * k) (a' := 23 + 10 * k) (l' := 24 + 10 * k) hR hlt j4 (by omega) j2 j0 j3 j1 i3 i1 i4 i2 (by omega) (by omega) (by omega) (by omega) (by omega) (by omega) (by omega)
      have z1' : ¬ h.1 (22 + 10 * k) 5 = 0 := by
        have : h.1 (22 + 10 * k) 5 = 1 := z1
        rw [this]
        exact n0
      have W1 := v_X10_back (d := d + 19) (s_X10_back_0_2 (L := L) (xs := xs) (d := d + 12) hR ht m1 gi i0 j0 z1' V)
      have gR : g.2.2 = xm_R0 t := by rw [g2]; exact hR
      have g84 : g.1 84 = h.1 84 := gq 84 (by decide) (by decide) (by omega)
      have g85 : g.1 85 = h.1 85 := gq 85 (by decide) (by decide) (by omega)
      have lp : ∀ n i (z : xm_H), n + i = 110 → z.2 = h.2 → (∀ q, q ≠ 83 → z.1 q = g.1 q) → (∀ j, j < i → z.1 83 j = h.1 84 (110 * k + j)) → ∃ z', xm_E (xm_X0 L xs) xm_P (d + 19) co_X11_back 17 [some (.ref 82), some (.int (nI k)), some (.int (nI i))] [] z (some (.int 0)) z' ∧ z'.2 = h.2 ∧ (∀ q, q ≠ 83 → z'.1 q = g.1 q) ∧ (∀ j, j < 110 → z'.1 83 j = h.1 84 (110 * k + j)) := by
        intro n
        induction n with
        | zero =>
          intro i z hn a1 a2 a3
          have hic : i = 110 := by omega
          subst hic
          exact ⟨z, s_X11_back_17_0 (d := d + 12) (by decide), a1, a2, a3⟩
        | succ n ih =>
          intro i z hn a1 a2 a3
          have zR : z.2.2 = xm_R0 t := by rw [a1]; exact hR
          have z84 : z.1 84 = h.1 84 := by rw [a2 84 (by decide), g84]
          obtain ⟨z', b0, b⟩ := ih (i + 1) (xm_si z 83 i (h.1 84 (110 * k + i))) (by omega) a1 (fun q hq => by rw [xm_rn hq]; exact a2 q hq) (fun j hj => by
            by_cases hji : j = i
            · subst hji
              exact xm_ra
            · rw [xm_rk hji]
              exact a3 j (by omega))
          refine ⟨z', ?_, b⟩
          refine s_X11_back_17_1 (d := d + 12) zR ht (nI_ge (b := 110) (by omega) (by omega)) (by rw [ix_110]; exact nI_in (by omega) (by omega)) (nI_in (by omega) (by omega)) ?_
          rw [ix_110, nI_clamp (by omega), nI_clamp (by omega), nI_1, z84]
          exact b0
      obtain ⟨z', b0, b1, b2, b3⟩ := lp 110 0 g (by omega) g2 (fun _ _ => rfl) (fun j hj => absurd hj (by omega))
      have W2 := v_X11_back (d := d + 19) (s_X11_back_0_2 (L := L) (xs := xs) (d := d + 12) (h := g) (t := t) (l1 := nI k) gR ht m2 gi (by rw [ec, g85]; show ¬ h.1 85 k = 0; rw [z2]; exact n0) b0)
      refine ⟨_, _, _, W1, W2, ?_⟩
      have hs : wsm (fun j => h.1 84 (110 * k + j)) (z'.1 83) := b3
      have hap := apL_of j4 hlt (by omega)
      have cL : ∀ j, j < 8 → z'.1 (t + j) = (cpL h (24 + 10 * k) t).1 (t + j) := fun j hj => by rw [b2 _ (by omega), gl _ (by omega) (by omega)]
      refine hr.worku ht hR b1 (fun q _ q3 q4 q83 qt => by rw [b2 q q83, gq q q3 q4 qt]) (fun j _ => by rw [b2 1 (by decide), gq 1 (by decide) (by decide) (by omega)]) (fun j _ => by rw [b2 82 (by decide), gq 82 (by decide) (by decide) (by omega)]) (rl_wf_s hs z3) (rl_lin_s hs (rl_lin_f (fun j hj => ?_) (fun j hj => ?_) (fun j hj => ?_) (fun j hj => ?_) (fun j hj => ?_) (fun j hj => ?_) (fun j hj => ?_) (fun j hj => ?_) z4)) (rl_wk_s hs z3 (rl_wk_f ?_ ?_ ?_ (fun j hj => ?_) z5))
      · have := cL 0 (by omega)
        rw [Nat.add_zero] at this
        rw [this]
        show (cpL h (24 + 10 * k) t).1 t j = h.1 (22 + 10 * k + 2) j
        rw [cpL_0 hap hj, show 22 + 10 * k + 2 = 24 + 10 * k by omega]
      · rw [cL 1 (by omega)]
        show (cpL h (24 + 10 * k) t).1 (t + 1) j = h.1 (22 + 10 * k + 3) j
        rw [cpL_1 hap hj, show 22 + 10 * k + 3 = 24 + 10 * k + 1 by omega]
      · rw [cL 2 (by omega)]
        show (cpL h (24 + 10 * k) t).1 (t + 2) j = h.1 (22 + 10 * k + 4) j
        rw [cpL_2 hap hj, show 22 + 10 * k + 4 = 24 + 10 * k + 2 by omega]
      · rw [cL 3 (by omega)]
        show (cpL h (24 + 10 * k) t).1 (t + 3) j = h.1 (22 + 10 * k + 5) j
        rw [cpL_3 hap hj, show 22 + 10 * k + 5 = 24 + 10 * k + 3 by omega]
      · rw [cL 4 (by omega)]
        show (cpL h (24 + 10 * k) t).1 (t + 4) j = h.1 (22 + 10 * k + 6) j
        rw [cpL_4 hap hj, show 22 + 10 * k + 6 = 24 + 10 * k + 4 by omega]
      · rw [cL 5 (by omega)]
        show (cpL h (24 + 10 * k) t).1 (t + 5) j = h.1 (22 + 10 * k + 7) j
        rw [cpL_5 hap hj, show 22 + 10 * k + 7 = 24 + 10 * k + 5 by omega]
      · rw [cL 6 (by omega)]
        show (cpL h (24 + 10 * k) t).1 (t + 6) j = h.1 (22 + 10 * k + 8) j
        rw [cpL_6 hap hj, show 22 + 10 * k + 8 = 24 + 10 * k + 6 by omega]
      · rw [cL 7 (by omega)]
        show (cpL h (24 + 10 * k) t).1 (t + 7) j = h.1 (22 + 10 * k + 9) j
        rw [cpL_7 hap hj, show 22 + 10 * k + 9 = 24 + 10 * k + 7 by omega]
      · rw [b2 3 (by decide), g_2]
        rfl
      · rw [b2 3 (by decide), g_3]
        rfl
      · rw [b2 3 (by decide), g_4]
        rfl
      · rw [b2 4 (by decide), ga j hj]
        show h.1 (23 + 10 * k) j = h.1 (22 + 10 * k + 1) j
        rw [show 22 + 10 * k + 1 = 23 + 10 * k by omega]
  · exact ⟨_, _, _, v_X10_back (d := d + 19) (s_X10_back_0_0 (d := d + 12) ((x_isImage a).2 hs)), v_X11_back (d := d + 19) (s_X11_back_0_0 (d := d + 12) ((in_0_2 a).2 hs)), hr⟩
end OPS
