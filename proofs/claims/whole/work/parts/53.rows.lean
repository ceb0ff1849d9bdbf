/-! Rows of numbers. -/
theorem xm_ln {h : xm_H} {p k q : Nat} {x : Int64} (hq : q ≠ p) : (xm_sl h p k x).2.1 q = h.2.1 q := if_neg hq
theorem xm_la {h : xm_H} {p k : Nat} {x : Int64} : (xm_sl h p k x).2.1 p k = x := by
  show (if p = p then vp_updL (h.2.1 p) k x else h.2.1 p) k = x
  rw [if_pos rfl]
  exact if_pos rfl
theorem xm_lj {h : xm_H} {p k j : Nat} {x : Int64} (hj : j ≠ k) : (xm_sl h p k x).2.1 p j = h.2.1 p j := by
  show (if p = p then vp_updL (h.2.1 p) k x else h.2.1 p) j = h.2.1 p j
  rw [if_pos rfl]
  exact if_neg hj
theorem g_sl {s : Nat} (hs : s < 4) : ¬ (nI s < 0 ∨ 4 ≤ (nI s).toNatClampNeg) := nI_in hs (by omega)
theorem ix_60 (s i : Nat) : ((60 : Int32) * nI s) + nI i = nI (60 * s + i) := by rw [show (60 : Int32) = nI 60 from rfl, nm_mul, nI_add]
theorem g_60 {s i : Nat} (hs : s < 4) (hi : i < 60) : ¬ (((60 : Int32) * nI s) + nI i < 0 ∨ 240 ≤ (((60 : Int32) * nI s) + nI i).toNatClampNeg) := by
  rw [ix_60]
  exact nI_in (by omega) (by omega)
theorem rw_ref {h : xm_H} {t s : Nat} (hR : h.2.2 = xm_R0 t) (hs : s < 4) : h.2.2 52 (nI s).toNatClampNeg = some (53 + 2 * s) := by
  rw [nI_clamp (by omega), hR]
  have : s = 0 ∨ s = 1 ∨ s = 2 ∨ s = 3 := by omega
  rcases this with rfl | rfl | rfl | rfl <;> rfl
theorem rw_num {h : xm_H} {t s : Nat} (hR : h.2.2 = xm_R0 t) (hs : s < 4) : h.2.2 (53 + 2 * s) 0 = some (54 + 2 * s) := by
  rw [hR]
  have : s = 0 ∨ s = 1 ∨ s = 2 ∨ s = 3 := by omega
  rcases this with rfl | rfl | rfl | rfl <;> rfl
theorem rw_sh {L : Nat} {xs : Nat → Int32} {s : Nat} (hs : s < 4) : (xm_X0 L xs).1[53 + 2 * s]? = some (.inr 2) := by
  have : s = 0 ∨ s = 1 ∨ s = 2 ∨ s = 3 := by omega
  rcases this with rfl | rfl | rfl | rfl <;> rfl
theorem rw_shn {L : Nat} {xs : Nat → Int32} {s : Nat} (hs : s < 4) : (xm_X0 L xs).1[54 + 2 * s]? = some (.inl (3, 60)) := by
  have : s = 0 ∨ s = 1 ∨ s = 2 ∨ s = 3 := by omega
  rcases this with rfl | rfl | rfl | rfl <;> rfl
section OPS
variable {L : Nat} {xs : Nat → Int32} {d : Nat} {SI : (Nat → Nat → Int32) → (Nat → Nat → Int64) → Prop}
theorem Rel.rowu {h h' : xm_H} {s : Nat} (hr : Rel SI h) (hs4 : s < 4) (h2 : h'.2.2 = h.2.2) (row : ∀ q, rl_cell q → q ≠ 53 + 2 * s → q ≠ 99 → q ≠ 100 → h'.1 q = h.1 q) (rol : ∀ q, rl_cell q → q ≠ 54 + 2 * s → q ≠ 101 → h'.2.1 q = h.2.1 q) (r1 : ∀ j, j = 1 ∨ j = 2 ∨ j = 3 → h'.1 1 j = h.1 1 j) (r82 : ∀ j, j = 5 ∨ j = 12 ∨ j = 13 → h'.1 82 j = h.1 82 j) (hns : rl_row h' s) (hos : ∀ u, u < 4 → u ≠ s → h'.1 99 u = h.1 99 u ∧ h'.1 100 u = h.1 100 u ∧ ∀ i, i < 60 → h'.2.1 101 (60 * u + i) = h.2.1 101 (60 * u + i)) : Rel SI h' := by
  obtain ⟨t, ht, hR, ⟨n, hn', h1, h5, hb⟩, hf, hw, hli, hwk, him, hro, hsi⟩ := hr
  refine ⟨t, ht, h2.trans hR, ⟨n, hn', (r1 1 (by omega)).trans h1, (r82 5 (by omega)).trans h5, fun j hj => ?_⟩, ⟨?_, ?_⟩, ?_, ?_, ?_, fun k hk => ?_, fun u hu => ?_, ?_⟩
  · rw [row 2 (by unfold rl_cell; omega) (by omega) (by omega) (by omega), row 86 (by unfold rl_cell; omega) (by omega) (by omega) (by omega)]
    exact hb j hj
  · rw [r1 2 (by omega), r82 12 (by omega)]; exact hf.1
  · rw [r1 3 (by omega), r82 13 (by omega)]; exact hf.2
  · rw [row 83 (by unfold rl_cell; omega) (by omega) (by omega) (by omega)]
    exact hw
  · rw [row 83 (by unfold rl_cell; omega) (by omega) (by omega) (by omega), row t (by unfold rl_cell; omega) (by omega) (by omega) (by omega), row (t + 1) (by unfold rl_cell; omega) (by omega) (by omega) (by omega), row (t + 2) (by unfold rl_cell; omega) (by omega) (by omega) (by omega), row (t + 3) (by unfold rl_cell; omega) (by omega) (by omega) (by omega), row (t + 4) (by unfold rl_cell; omega) (by omega) (by omega) (by omega), row (t + 5) (by unfold rl_cell; omega) (by omega) (by omega) (by omega), row (t + 6) (by unfold rl_cell; omega) (by omega) (by omega) (by omega), row (t + 7) (by unfold rl_cell; omega) (by omega) (by omega) (by omega)]
    exact hli
  · rw [row 83 (by unfold rl_cell; omega) (by omega) (by omega) (by omega), row 3 (by unfold rl_cell; omega) (by omega) (by omega) (by omega), row 4 (by unfold rl_cell; omega) (by omega) (by omega) (by omega)]
    exact hwk
  · have h6 := him k hk
    unfold rl_im at h6 ⊢
    rw [row 85 (by unfold rl_cell; omega) (by omega) (by omega) (by omega), row 84 (by unfold rl_cell; omega) (by omega) (by omega) (by omega)]
    simp only [row (22 + 10 * k + 0) (by unfold rl_cell; omega) (by omega) (by omega) (by omega), row (22 + 10 * k + 1) (by unfold rl_cell; omega) (by omega) (by omega) (by omega), row (22 + 10 * k + 2) (by unfold rl_cell; omega) (by omega) (by omega) (by omega), row (22 + 10 * k + 3) (by unfold rl_cell; omega) (by omega) (by omega) (by omega), row (22 + 10 * k + 4) (by unfold rl_cell; omega) (by omega) (by omega) (by omega), row (22 + 10 * k + 5) (by unfold rl_cell; omega) (by omega) (by omega) (by omega), row (22 + 10 * k + 6) (by unfold rl_cell; omega) (by omega) (by omega) (by omega), row (22 + 10 * k + 7) (by unfold rl_cell; omega) (by omega) (by omega) (by omega), row (22 + 10 * k + 8) (by unfold rl_cell; omega) (by omega) (by omega) (by omega), row (22 + 10 * k + 9) (by unfold rl_cell; omega) (by omega) (by omega) (by omega)]
    exact h6
  · by_cases hus : u = s
    · subst hus
      exact hns
    · have h6 := hro u hu
      obtain ⟨o1, o2, o3⟩ := hos u hu hus
      unfold rl_row at h6 ⊢
      rw [row (53 + 2 * u) (by unfold rl_cell; omega) (by omega) (by omega) (by omega), o1, o2, rol (54 + 2 * u) (by unfold rl_cell; omega) (by omega) (by omega)]
      rcases h6 with h6 | ⟨z1, m, z2, z3, z4, w, z5, z6, z7, z8⟩
      · exact Or.inl h6
      · exact Or.inr ⟨z1, m, z2, z3, z4, w, z5, z6, z7, fun i hi => by rw [o3 i (by omega)]; exact z8 i hi⟩
  · have e1 : (fun p => if p < 12 then h'.1 (61 + p) else fun _ => 0) = (fun p => if p < 12 then h.1 (61 + p) else fun _ => 0) := by
      funext p
      by_cases hp : p < 12
      · rw [if_pos hp, if_pos hp, row (61 + p) (by unfold rl_cell; omega) (by omega) (by omega) (by omega)]
      · rw [if_neg hp, if_neg hp]
    have e2 : (fun p => if p < 12 then h'.2.1 (61 + p) else fun _ => 0) = (fun p => if p < 12 then h.2.1 (61 + p) else fun _ => 0) := by
      funext p
      by_cases hp : p < 12
      · rw [if_pos hp, if_pos hp, rol (61 + p) (by unfold rl_cell; omega) (by omega) (by omega)]
      · rw [if_neg hp, if_neg hp]
    rw [e1, e2]
    exact hsi
theorem v_fillL {h : xm_H} {v n : Nat} {x : Int64} (hv : (xm_X0 L xs).1[v]? = some (.inl (3, n))) (hn : n < 1048576) : ∃ g, xm_V (xm_X0 L xs) xm_P (d + 1) 184 [.ref v, .long x] h none g ∧ g.1 = h.1 ∧ g.2.2 = h.2.2 ∧ (∀ q, q ≠ v → g.2.1 q = h.2.1 q) ∧ (∀ i, i < n → g.2.1 v i = x) := by
  have loop : ∀ k i (g : xm_H), k + i = n → g.1 = h.1 → g.2.2 = h.2.2 → (∀ q, q ≠ v → g.2.1 q = h.2.1 q) → (∀ j, j < i → g.2.1 v j = x) → ∃ g', xm_E (xm_X0 L xs) xm_P d co_J7_fill_d0a16 5 [some (.ref v), some (.long x), none, some (.int (nI i)), some (.int (nI n))] [] g none g' ∧ g'.1 = h.1 ∧ g'.2.2 = h.2.2 ∧ (∀ q, q ≠ v → g'.2.1 q = h.2.1 q) ∧ (∀ j, j < n → g'.2.1 v j = x) := by
    intro k
    induction k with
    | zero =>
      intro i g hk a1 a2 a3 a4
      have hic : i = n := by omega
      subst hic
      exact ⟨g, p_J7_fill_d0a16_5_0 (nI_le (by omega) (by omega)), a1, a2, a3, a4⟩
    | succ k ih =>
      intro i g hk a1 a2 a3 a4
      obtain ⟨g', b0, b⟩ := ih (i + 1) (xm_sl g v i x) (by omega) a1 a2 (fun q hq => by rw [xm_ln hq]; exact a3 q hq) (fun j hj => by
        by_cases hji : j = i
        · subst hji
          exact xm_la
        · rw [xm_lj hji]
          exact a4 j (by omega))
      refine ⟨g', ?_, b⟩
      refine p_J7_fill_d0a16_5_1 (nI_ge (by omega) (by omega)) hv (nI_in (by omega) (by omega)) ?_
      rw [nI_clamp (by omega), nI_1]
      exact b0
  obtain ⟨g', b0, b⟩ := loop n 0 h (by omega) rfl rfl (fun _ _ => rfl) (fun j hj => absurd hj (by omega))
  exact ⟨g', v_J7_fill_d0a16 (p_J7_fill_d0a16_0_0 hv b0), b⟩
theorem op_row (a b c : Int32) : xm_opi (xm_X0 L xs) (d + 20) (Rel SI) 182 328 [.int a, .int b, .int c] := by
  intro h hr
  obtain ⟨t, ht, hR, hw, hli, hwk⟩ := hr.opn
  have n0 : ¬ (1 : Int32) = 0 := by decide
  by_cases hs : nb a 0 3
  · have m1 := (x_isSlot a).1 hs
    have m2 : F_X11_isSlot a = 1 := (in_0_3 a).1 hs
    by_cases hw3 : nb b 0 3
    · have m3 := (in_0_3 b).1 hw3
      obtain ⟨w, -, hw3', rfl⟩ := hw3
      obtain ⟨s, -, hs3, rfl⟩ := hs
      have c1 : ¬ nI w < (0 : Int32) := nI_pos (by omega)
      have c2 : ¬ (4 : Int32) ≤ nI w := nI_ge (b := 4) (by omega) (by omega)
      by_cases hc60 : c ≤ (60 : Int32)
      · by_cases hc0 : (0 : Int32) ≤ c
        · obtain ⟨m, hm, rfl⟩ := nI_of (Int32.not_lt.mpr hc0)
          have hm60 : m ≤ 60 := (nI_leI (b := 60) hm (by omega)).mp hc60
          have ez : (if (0 : Int32) < (if (60 : Int32) < nI m then (60 : Int32) else nI m) then (if (60 : Int32) < nI m then (60 : Int32) else nI m) else (0 : Int32)) = nI m := by
            rw [if_neg (show ¬ (60 : Int32) < nI m from nI_nlt (a := 60) hm60 (by omega))]
            by_cases hz : m = 0
            · subst hz
              rfl
            · rw [if_pos (show (0 : Int32) < nI m from nI_lt (a := 0) (by omega) (by omega))]
          let h1 : xm_H := xm_si (xm_si (xm_si h (53 + 2 * s) 1 (1 : Int32)) (53 + 2 * s) 2 (nI w)) (53 + 2 * s) 3 (nI m)
          obtain ⟨g, VF, f1, f2, f3, f4⟩ := v_fillL (L := L) (xs := xs) (d := d + 17) (h := h1) (v := 54 + 2 * s) (n := 60) (x := 0) (rw_shn (by omega)) (by omega)
          have VK : xm_V (xm_X0 L xs) xm_P (d + 19) 183 [.ref (53 + 2 * s), .int (nI w), .int (nI m)] h none g := by
            refine v_X2_make (d := d + 18) (s_X2_make_0_0 (d := d + 11) (rw_sh (by omega)) (v0 := 54 + 2 * s) ?_ ?_)
            · exact rw_num hR (by omega)
            · rw [ez]
              exact VF
          have gR : g.2.2 = xm_R0 t := by rw [f2]; exact hR
          have W1 := v_X10_row (d := d + 19) (s_X10_row_0_3 (L := L) (xs := xs) (d := d + 12) hR ht (by rw [m1]; exact n0) c1 c2 hc60 hc0 (g_sl (by omega)) (rw_ref hR (by omega)) VK (rw_sh (by omega)))
          have loop : ∀ k i (z : xm_H), k + i = 60 → z.2.2 = xm_R0 t → z.1 = (xm_si (xm_si g 99 s (nI m)) 100 s (nI w)).1 → (∀ q, q ≠ 101 → z.2.1 q = g.2.1 q) → (∀ j, j < i → z.2.1 101 (60 * s + j) = 0) → (∀ u i, u < 4 → u ≠ s → i < 60 → z.2.1 101 (60 * u + i) = g.2.1 101 (60 * u + i)) → ∃ z', xm_E (xm_X0 L xs) xm_P (d + 19) co_X11_row 30 [some (.ref 82), some (.int (nI s)), some (.int (nI w)), some (.int (nI m)), some (.int (nI i))] [] z (some (.int 0)) z' ∧ z'.2.2 = xm_R0 t ∧ z'.1 = (xm_si (xm_si g 99 s (nI m)) 100 s (nI w)).1 ∧ (∀ q, q ≠ 101 → z'.2.1 q = g.2.1 q) ∧ (∀ j, j < 60 → z'.2.1 101 (60 * s + j) = 0) ∧ (∀ u i, u < 4 → u ≠ s → i < 60 → z'.2.1 101 (60 * u + i) = g.2.1 101 (60 * u + i)) := by
            intro k
            induction k with
            | zero =>
              intro i z hk a1 a2 a3 a4 a5
              have hic : i = 60 := by omega
              subst hic
              exact ⟨z, s_X11_row_30_0 (d := d + 12) (by decide), a1, a2, a3, a4, a5⟩
            | succ k ih =>
              intro i z hk a1 a2 a3 a4 a5
              obtain ⟨z', b0, b⟩ := ih (i + 1) (xm_sl z 101 (60 * s + i) 0) (by omega) a1 a2 (fun q hq => by rw [xm_ln hq]; exact a3 q hq) (fun j hj => by
                by_cases hji : j = i
                · subst hji
                  exact xm_la
                · rw [xm_lj (by omega)]
                  exact a4 j (by omega)) (fun u i' hu hus hi' => by rw [xm_lj (by omega)]; exact a5 u i' hu hus hi')
              refine ⟨z', ?_, b⟩
              refine s_X11_row_30_1 (d := d + 12) a1 ht (nI_ge (b := 60) (by omega) (by omega)) (g_60 (by omega) (by omega)) ?_
              rw [ix_60, nI_clamp (by omega), nI_1]
              exact b0
          obtain ⟨z', b0, b1, b2, b3, b4, b5⟩ := loop 60 0 (xm_si (xm_si g 99 s (nI m)) 100 s (nI w)) (by omega) gR rfl (fun _ _ => rfl) (fun j hj => absurd hj (by omega)) (fun _ _ _ _ _ => rfl)
          have W2 := v_X11_row (d := d + 19) (s_X11_row_0_2 (L := L) (xs := xs) (d := d + 12) (h := g) (t := t) (l1 := nI s) (l2 := nI w) (l3 := nI m) gR ht (by rw [m2]; exact n0) (by rw [m3]; exact n0) hc60 hc0 (g_sl (by omega)) (by rw [nI_clamp (by omega)]; exact b0))
          refine ⟨_, _, _, W1, W2, ?_⟩
          have z1 : ∀ q, q ≠ 99 → q ≠ 100 → z'.1 q = g.1 q := fun q q1 q2 => by rw [b2, xm_rn q2, xm_rn q1]
          have g1 : ∀ q, q ≠ 53 + 2 * s → g.1 q = h.1 q := fun q hq => by rw [f1]; show h1.1 q = h.1 q; simp only [h1]; rw [xm_rn hq, xm_rn hq, xm_rn hq]
          refine hr.rowu (s := s) (by omega) (by rw [b1, hR]) (fun q _ q1 q2 q3 => by rw [z1 q q2 q3, g1 q q1]) (fun q _ q1 q2 => by rw [b3 q q2, f3 q q1]; rfl) (fun j _ => by rw [z1 1 (by decide) (by decide), g1 1 (by omega)]) (fun j _ => by rw [z1 82 (by decide) (by decide), g1 82 (by omega)]) ?_ (fun u hu hus => ⟨?_, ?_, ?_⟩)
          · right
            have k1 : z'.1 (53 + 2 * s) = h1.1 (53 + 2 * s) := by rw [z1 _ (by omega) (by omega), f1]
            refine ⟨?_, m, hm60, ?_, ?_, w, hw3', ?_, ?_, fun i hi => ?_⟩
            · rw [k1]
              simp only [h1]
              rw [xm_rk (by decide), xm_rk (by decide), xm_ra]
            · rw [k1]
              exact xm_ra
            · rw [b2, xm_rn (by decide), xm_ra]
            · rw [k1]
              simp only [h1]
              rw [xm_rk (by decide), xm_ra]
            · rw [b2, xm_ra]
            · rw [b4 i (by omega), b3 (54 + 2 * s) (by omega), f4 i (by omega)]
          · rw [b2, xm_rn (by decide), xm_rk hus, g1 99 (by omega)]
          · rw [b2, xm_rk hus, xm_rn (by decide), g1 100 (by omega)]
          · intro i hi
            rw [b5 u i hu hus hi, f3 101 (by omega)]
            rfl
        · exact ⟨_, _, _, v_X10_row (d := d + 19) (s_X10_row_0_4 (d := d + 12) (by rw [m1]; exact n0) c1 c2 hc60 hc0), v_X11_row (d := d + 19) (s_X11_row_0_3 (d := d + 12) (by rw [m2]; exact n0) (by rw [m3]; exact n0) hc60 hc0), hr⟩
      · exact ⟨_, _, _, v_X10_row (d := d + 19) (s_X10_row_0_5 (d := d + 12) (by rw [m1]; exact n0) c1 c2 hc60), v_X11_row (d := d + 19) (s_X11_row_0_4 (d := d + 12) (by rw [m2]; exact n0) (by rw [m3]; exact n0) hc60), hr⟩
    · have V2 := v_X11_row (d := d + 19) (s_X11_row_0_1 (L := L) (xs := xs) (d := d + 12) (h := h) (l1 := a) (l2 := b) (l3 := c) (by rw [m2]; exact n0) ((in_0_3 b).2 hw3))
      by_cases h0 : b < 0
      · exact ⟨_, _, _, v_X10_row (d := d + 19) (s_X10_row_0_1 (d := d + 12) (by rw [m1]; exact n0) h0), V2, hr⟩
      · refine ⟨_, _, _, v_X10_row (d := d + 19) (s_X10_row_0_2 (d := d + 12) (by rw [m1]; exact n0) h0 ?_), V2, hr⟩
        obtain ⟨w, hw', rfl⟩ := nI_of h0
        have := nb_nat hw' (by omega) hw3
        exact nI_le (a := 4) (by omega) (by omega)
  · exact ⟨_, _, _, v_X10_row (d := d + 19) (s_X10_row_0_0 (d := d + 12) ((x_isSlot a).2 hs)), v_X11_row (d := d + 19) (s_X11_row_0_0 (d := d + 12) ((in_0_3 a).2 hs)), hr⟩
end OPS
