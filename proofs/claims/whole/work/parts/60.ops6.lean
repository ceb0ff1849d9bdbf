/-! drawn, slipped, years. -/
section OPS
variable {L : Nat} {xs : Nat → Int32} {d : Nat} {SI : (Nat → Nat → Int32) → (Nat → Nat → Int64) → Prop}
theorem op_drawn (a b c : Int32) : xm_opi (xm_X0 L xs) (d + 20) (Rel SI) 167 321 [.int a, .int b, .int c] := by
  intro h hr
  obtain ⟨t, ht, hR, hw, hli, hwk⟩ := hr.opn
  have n0 : ¬ (1 : Int32) = 0 := by decide
  have A0 := ask0 (L := L) (xs := xs) (d := d + 11) (a := b) (f := 1) ht hR hw hli.1
  by_cases hs : nb a 0 2000000000
  · have k1 := (x_isSeed a).1 hs
    have k2 : F_X11_isSeed a = 1 := (in_0_2000000000 a).1 hs
    by_cases hv : nb c 0 7
    · have m1 := (x_isView c).1 hv
      have m2 : F_X11_isOfState c = 1 := (in_0_7 c).1 hv
      obtain ⟨B, hB, e6, e19, -, -⟩ := calls_of hw hli
      obtain ⟨r, hr3, VX, VM, hz⟩ := ask_of (L := L) (xs := xs) (d := d + 9) (a := b) (f := 1) (bx := h.1 t 6) (B := B) hr ht hR hw hli.1 e6 (by omega) (Or.inr ⟨rfl, e19⟩)
      by_cases h0 : r = 0
      · subst h0
        obtain ⟨hn, s, m, s4, rfl, hm, e3, e99, hnu⟩ := hz rfl
        obtain ⟨x, g, xK, F1, g2, gq, gl, x0, x1, x3, hg, hy⟩ := op_draw (L := L) (xs := xs) (d := d + 8) (sd := a) rfl hr ht hR hw hli hwk hn s4 hm e3 e99 e19 hB hnu
        obtain ⟨z, F2, z2, zq, zl, zk, y0, y1, y3, hz'⟩ := hy g g2 (fun q q1 _ => gq q q1) (fun q q1 _ => gl q q1) (fun j _ => by rw [gq 82 (by decide)])
        have gR : g.2.2 = xm_R0 t := by rw [g2]; exact hR
        have zR : z.2.2 = xm_R0 t := by rw [z2]; exact hR
        obtain ⟨j, -, hj, rfl⟩ := hv
        have W1 := v_X10_drawn (d := d + 19) (s_X10_drawn_0_2 (L := L) (xs := xs) (d := d + 12) (l3 := nI j) hR ht (by rw [k1]; exact n0) (by rw [m1]; exact n0) VX rfl hR (g_sl s4) (rw_ref hR s4) F1 gR)
        have VMg := VM g ⟨g2, gl 101 (by decide)⟩ (gq 83 (by decide)) (gq 99 (by decide))
        have W2 := v_X11_drawn (d := d + 19) (s_X11_drawn_0_6 (L := L) (xs := xs) (d := d + 12) (l3 := nI j) ht (by rw [k2]; exact n0) (by rw [m2]; exact n0) VMg (by decide) F2 (fun _ => by rw [y0]; exact ar_n0 xK) (fun _ => by rw [y0]; exact ar_n0 xK) zR)
        rw [x0, x1, view_eq (h' := z) (t' := t) hj xK (by rw [gq t (by omega), gq 83 (by decide)]; exact hli.2.1) (by rw [gq t (by omega), gq 83 (by decide)]; exact hli.2.2.1) (by rw [gq t (by omega), gq 83 (by decide)]; exact hli.2.2.2.1) (by rw [zq 83 (by decide) (by decide), gq 83 (by decide)])] at W1
        rw [y0, y1] at W2
        exact ⟨_, _, _, W1, W2, hz'⟩
      · have W1 := v_X10_drawn (d := d + 19) (s_X10_drawn_0_3 (L := L) (xs := xs) (d := d + 12) (l3 := c) hR ht (by rw [k1]; exact n0) (by rw [m1]; exact n0) VX h0)
        have VM' := VM h ⟨rfl, rfl⟩ rfl rfl
        rcases hr3 with z | z | z
        · exact absurd z h0
        · subst z
          exact ⟨_, _, _, W1, v_X11_drawn (d := d + 19) (s_X11_drawn_0_8 (d := d + 12) (by rw [k2]; exact n0) (by rw [m2]; exact n0) VM' (by decide) (by decide)), hr⟩
        · subst z
          exact ⟨_, _, _, W1, v_X11_drawn (d := d + 19) (s_X11_drawn_0_7 (d := d + 12) (by rw [k2]; exact n0) (by rw [m2]; exact n0) VM' (by decide) (by decide)), hr⟩
    · exact ⟨_, _, _, v_X10_drawn (d := d + 19) (s_X10_drawn_0_1 (d := d + 12) (by rw [k1]; exact n0) ((x_isView c).2 hv)), v_X11_drawn (d := d + 19) (s_X11_drawn_0_5 (d := d + 12) (by rw [k2]; exact n0) ((in_0_7 c).2 hv) A0 (by decide) (by decide)), hr⟩
  · exact ⟨_, _, _, v_X10_drawn (d := d + 19) (s_X10_drawn_0_0 (d := d + 12) ((x_isSeed a).2 hs)), v_X11_drawn (d := d + 19) (s_X11_drawn_0_2 (d := d + 12) ((in_0_2000000000 a).2 hs) A0 (by decide) (by decide)), hr⟩
theorem op_slipped (a b : Int32) : xm_opi (xm_X0 L xs) (d + 20) (Rel SI) 171 325 [.int a, .int b] := by
  intro h hr
  obtain ⟨t, ht, hR, hw, hli, hwk⟩ := hr.opn
  have n0 : ¬ (1 : Int32) = 0 := by decide
  by_cases hs : nb a 0 2000000000
  · have k1 := (x_isSeed a).1 hs
    have k2 : F_X11_isSeed a = 1 := (in_0_2000000000 a).1 hs
    obtain ⟨B, hB, e6, e19, -, -⟩ := calls_of hw hli
    obtain ⟨r, hr3, VX, VM, hz⟩ := ask_of (L := L) (xs := xs) (d := d + 9) (a := b) (f := 1) (bx := h.1 t 6) (B := B) hr ht hR hw hli.1 e6 (by omega) (Or.inr ⟨rfl, e19⟩)
    by_cases h0 : r = 0
    · subst h0
      obtain ⟨hn, s, m, s4, rfl, hm, e3, e99, hnu⟩ := hz rfl
      obtain ⟨x, g, xK, F1, g2, gq, gl, x0, x1, x3, hg, hy⟩ := op_draw (L := L) (xs := xs) (d := d + 8) (sd := a) rfl hr ht hR hw hli hwk hn s4 hm e3 e99 e19 hB hnu
      obtain ⟨z, F2, z2, zq, zl, zk, y0, y1, y3, hz'⟩ := hy g g2 (fun q q1 _ => gq q q1) (fun q q1 _ => gl q q1) (fun j _ => by rw [gq 82 (by decide)])
      have gR : g.2.2 = xm_R0 t := by rw [g2]; exact hR
      have W1 := v_X10_slipped (d := d + 19) (s_X10_slipped_0_1 (L := L) (xs := xs) (d := d + 12) hR ht (by rw [k1]; exact n0) VX rfl hR (g_sl s4) (rw_ref hR s4) F1 gR)
      have VMh : xm_V (xm_X0 L xs) xm_P (d + 19) 252 [.ref 82, .int (nI s), .int (F_X11_isSeed a), .int 1] g (some (.int 0)) g := by
        rw [k2]
        exact VM g ⟨g2, gl 101 (by decide)⟩ (gq 83 (by decide)) (gq 99 (by decide))
      have W2 := v_X11_slipped (d := d + 19) (s_X11_slipped_0_0 (L := L) (xs := xs) (d := d + 12) VMh (by decide) F2)
      rw [x3] at W1
      rw [y3] at W2
      exact ⟨_, _, _, W1, W2, hz'⟩
    · have W1 := v_X10_slipped (d := d + 19) (s_X10_slipped_0_2 (L := L) (xs := xs) (d := d + 12) hR ht (by rw [k1]; exact n0) VX h0)
      have VM' : xm_V (xm_X0 L xs) xm_P (d + 19) 252 [.ref 82, .int b, .int (F_X11_isSeed a), .int 1] h (some (.int r)) h := by
        rw [k2]
        exact VM h ⟨rfl, rfl⟩ rfl rfl
      have hneg : ¬ (0 : Int32) ≤ r := by
        rcases hr3 with z | z | z
        · exact absurd z h0
        · rw [z]; decide
        · rw [z]; decide
      exact ⟨_, _, _, W1, v_X11_slipped (d := d + 19) (s_X11_slipped_0_1 (d := d + 12) VM' hneg), hr⟩
  · have A0 : xm_V (xm_X0 L xs) xm_P (d + 19) 252 [.ref 82, .int b, .int (F_X11_isSeed a), .int 1] h (some (.int (-2))) h := by
      rw [show F_X11_isSeed a = 0 from (in_0_2000000000 a).2 hs]
      exact ask0 (d := d + 11) ht hR hw hli.1
    exact ⟨_, _, _, v_X10_slipped (d := d + 19) (s_X10_slipped_0_0 (d := d + 12) ((x_isSeed a).2 hs)), v_X11_slipped (d := d + 19) (s_X11_slipped_0_1 (d := d + 12) A0 (by decide)), hr⟩
theorem op_years (a b c : Int32) : xm_opi (xm_X0 L xs) (d + 20) (Rel SI) 172 326 [.int a, .int b, .int c] := by
  intro h hr
  obtain ⟨t, ht, hR, hw, hli, hwk⟩ := hr.opn
  have n0 : ¬ (1 : Int32) = 0 := by decide
  have A0 := ask0 (L := L) (xs := xs) (d := d + 11) (a := c) (f := 1) ht hR hw hli.1
  by_cases hs : nb a 0 2000000000
  · have k1 := (x_isSeed a).1 hs
    have k2 : F_X11_isSeed a = 1 := (in_0_2000000000 a).1 hs
    by_cases hv : nb b 1 20
    · have m2 := (in_1_20 b).1 hv
      obtain ⟨n, hn1, hn20, rfl⟩ := hv
      obtain ⟨sd, -, hsd, rfl⟩ := hs
      have c1 : ¬ nI n < (1 : Int32) := nI_nlt (b := 1) (by omega) (by omega)
      have c2 : ¬ (20 : Int32) < nI n := nI_nlt (a := 20) (by omega) (by omega)
      obtain ⟨B, hB, e6, e19, -, -⟩ := calls_of hw hli
      obtain ⟨r, hr3, VX, VM, hz⟩ := ask_of (L := L) (xs := xs) (d := d + 9) (a := c) (f := 1) (bx := h.1 t 6) (B := B) hr ht hR hw hli.1 e6 (by omega) (Or.inr ⟨rfl, e19⟩)
      by_cases h0 : r = 0
      · subst h0
        obtain ⟨hn, s, m, s4, rfl, hm, e3, e99, hnu⟩ := hz rfl
        have loop : ∀ k i (g : xm_H) (r : Int32), k + i = n → g.2.2 = h.2.2 → (∀ q, q ≠ 73 → g.1 q = h.1 q) → (∀ q, q ≠ 73 → g.2.1 q = h.2.1 q) → Rel SI g → ∃ (r' : Int32) (g' : xm_H), xm_E (xm_X0 L xs) xm_P (d + 19) co_X10_years 27 [some (.ref 0), some (.int (nI sd)), some (.int (nI n)), some (.int (nI s)), some (.int 0), some (.int r), some (.int (nI i))] [] g (some (.int r')) g' ∧ g'.2.2 = h.2.2 ∧ (∀ q, q ≠ 73 → g'.1 q = h.1 q) ∧ (∀ q, q ≠ 73 → g'.2.1 q = h.2.1 q) ∧ Rel SI g' ∧ (∀ y : xm_H, y.2.2 = h.2.2 → (∀ q, q ≠ 73 → q ≠ 82 → y.1 q = h.1 q) → (∀ q, q ≠ 73 → q ≠ 82 → y.2.1 q = h.2.1 q) → (∀ j, j < 15 → y.1 82 j = h.1 82 j) → Rel SI y → ∃ z, xm_E (xm_X0 L xs) xm_P (d + 19) co_X11_years 25 [some (.ref 82), some (.int (nI sd)), some (.int (nI n)), some (.int (nI s)), some (.int 0), some (.int r), some (.int (nI i))] [] y (some (.int r')) z ∧ Rel SI z) := by
          intro k
          induction k with
          | zero =>
            intro i g r hk a1 a2 a3 a4
            have hic : i = n := by omega
            subst hic
            exact ⟨r, g, s_X10_years_27_0 (d := d + 12) (nI_le (by omega) (by omega)), a1, a2, a3, a4, fun y _ _ _ _ hy => ⟨y, s_X11_years_25_0 (d := d + 12) (nI_le (by omega) (by omega)), hy⟩⟩
          | succ k ih =>
            intro i g r hk a1 a2 a3 a4
            have gR : g.2.2 = xm_R0 t := by rw [a1]; exact hR
            have lt : ¬ nI n ≤ nI i := nI_ge (by omega) (by omega)
            have es : (nI sd + nI i).toInt64 = (nI sd).toInt64 + (nI i).toInt64 := by
              rw [nI_add, nI_l (by omega), nI_l (by omega), nI_l (by omega), lN_add]
            have g83 : g.1 83 = h.1 83 := a2 83 (by decide)
            have hwg : rl_wf (g.1 83) := by rw [g83]; exact hw
            have hlg : rl_lin (g.1 t) (g.1 (t + 1)) (g.1 (t + 2)) (g.1 (t + 3)) (g.1 (t + 4)) (g.1 (t + 5)) (g.1 (t + 6)) (g.1 (t + 7)) (g.1 83) := by
              rw [g83, a2 t (by omega), a2 (t + 1) (by omega), a2 (t + 2) (by omega), a2 (t + 3) (by omega), a2 (t + 4) (by omega), a2 (t + 5) (by omega), a2 (t + 6) (by omega), a2 (t + 7) (by omega)]
              exact hli
            have hkg : rl_wk (g.1 3) (g.1 4) (g.1 83) := by
              rw [g83, a2 3 (by decide), a2 4 (by decide)]
              exact hwk
            obtain ⟨x, g1, xK, F1, q2', gq, gl, x0, x1, x3, hg, hy⟩ := op_draw (L := L) (xs := xs) (d := d + 8) (sd := nI sd + nI i) es a4 ht gR hwg hlg hkg (by rw [g83]; exact hn) s4 hm (by rw [a2 _ (by omega)]; exact e3) (by rw [a2 99 (by decide)]; exact e99) (by rw [g83]; exact e19) hB (fun i hi => by rw [a3 _ (by omega), a3 101 (by decide)]; exact hnu i hi)
            have g1R : g1.2.2 = xm_R0 t := by rw [q2']; exact gR
            have nx : ∀ r2 : Int32, (x.2.2.2 = 0 → r2 = r + 1) → (¬ x.2.2.2 = 0 → r2 = r) → ∃ (r' : Int32) (g' : xm_H), xm_E (xm_X0 L xs) xm_P (d + 19) co_X10_years 27 [some (.ref 0), some (.int (nI sd)), some (.int (nI n)), some (.int (nI s)), some (.int 0), some (.int r), some (.int (nI i))] [] g (some (.int r')) g' ∧ g'.2.2 = h.2.2 ∧ (∀ q, q ≠ 73 → g'.1 q = h.1 q) ∧ (∀ q, q ≠ 73 → g'.2.1 q = h.2.1 q) ∧ Rel SI g' ∧ (∀ y : xm_H, y.2.2 = h.2.2 → (∀ q, q ≠ 73 → q ≠ 82 → y.1 q = h.1 q) → (∀ q, q ≠ 73 → q ≠ 82 → y.2.1 q = h.2.1 q) → (∀ j, j < 15 → y.1 82 j = h.1 82 j) → Rel SI y → ∃ z, xm_E (xm_X0 L xs) xm_P (d + 19) co_X11_years 25 [some (.ref 82), some (.int (nI sd)), some (.int (nI n)), some (.int (nI s)), some (.int 0), some (.int r), some (.int (nI i))] [] y (some (.int r')) z ∧ Rel SI z) := by
              intro r2 hz1 hz2
              obtain ⟨r', g', E1, b1, b2, b3, b4, E2⟩ := ih (i + 1) g1 r2 (by omega) (by rw [q2', a1]) (fun q hq => by rw [gq q hq, a2 q hq]) (fun q hq => by rw [gl q hq, a3 q hq]) hg
              refine ⟨r', g', ?_, b1, b2, b3, b4, ?_⟩
              · by_cases hz : x.2.2.2 = 0
                · have e := hz1 hz
                  subst e
                  exact s_X10_years_27_1 (d := d + 12) gR ht lt (g_sl s4) (rw_ref gR s4) F1 g1R (by rw [x3]; exact hz) (by rw [nI_1]; exact E1)
                · have e := hz2 hz
                  subst e
                  exact s_X10_years_27_2 (d := d + 12) gR ht lt (g_sl s4) (rw_ref gR s4) F1 g1R (by rw [x3]; exact hz) (by rw [nI_1]; exact E1)
              · intro y y1 y2 y3 y4 y5
                obtain ⟨z, F2, z2, zq, zl, zk, w0, w1, w3, hz'⟩ := hy y (by rw [y1, a1]) (fun q q1 q3 => by rw [y2 q q1 q3, a2 q q1]) (fun q q1 q3 => by rw [y3 q q1 q3, a3 q q1]) (fun j hj => by rw [y4 j hj, a2 82 (by decide)])
                obtain ⟨z'', E3, hz3⟩ := E2 z (by rw [z2, a1]) (fun q q1 q3 => by rw [zq q q1 q3, a2 q q1]) (fun q q1 q3 => by rw [zl q q1 q3, a3 q q1]) (fun j hj => by rw [zk j hj, a2 82 (by decide)]) hz'
                refine ⟨z'', ?_, hz3⟩
                by_cases hz : x.2.2.2 = 0
                · have e := hz1 hz
                  subst e
                  exact s_X11_years_25_1 (d := d + 12) lt F2 (by rw [w3]; exact hz) (by rw [nI_1]; exact E3)
                · have e := hz2 hz
                  subst e
                  exact s_X11_years_25_2 (d := d + 12) lt F2 (by rw [w3]; exact hz) (by rw [nI_1, Int32.add_zero]; exact E3)
            by_cases hz : x.2.2.2 = 0
            · exact nx (r + 1) (fun _ => rfl) (fun q => absurd hz q)
            · exact nx r (fun q => absurd q hz) (fun _ => rfl)
        obtain ⟨r', g', E1, b1, b2, b3, b4, E2⟩ := loop n 0 h 0 (by omega) rfl (fun _ _ => rfl) (fun _ _ => rfl) hr
        obtain ⟨z, E3, hz'⟩ := E2 g' b1 (fun q q1 _ => b2 q q1) (fun q q1 _ => b3 q q1) (fun j _ => by rw [b2 82 (by decide)]) b4
        have VMg := VM g' ⟨b1, b3 101 (by decide)⟩ (b2 83 (by decide)) (b2 99 (by decide))
        exact ⟨_, _, _, v_X10_years (d := d + 19) (s_X10_years_0_3 (d := d + 12) hR ht (by rw [k1]; exact n0) c1 c2 VX rfl E1), v_X11_years (d := d + 19) (s_X11_years_0_4 (d := d + 12) (by rw [k2]; exact n0) (by rw [m2]; exact n0) VMg (by decide) E3), hz'⟩
      · have hneg : ¬ (0 : Int32) ≤ r := by
          rcases hr3 with z | z | z
          · exact absurd z h0
          · rw [z]; decide
          · rw [z]; decide
        exact ⟨_, _, _, v_X10_years (d := d + 19) (s_X10_years_0_4 (d := d + 12) hR ht (by rw [k1]; exact n0) c1 c2 VX h0), v_X11_years (d := d + 19) (s_X11_years_0_5 (d := d + 12) (by rw [k2]; exact n0) (by rw [m2]; exact n0) (VM h ⟨rfl, rfl⟩ rfl rfl) hneg), hr⟩
    · have V2 := v_X11_years (d := d + 19) (s_X11_years_0_3 (L := L) (xs := xs) (d := d + 12) (l2 := b) (by rw [k2]; exact n0) ((in_1_20 b).2 hv) A0 (by decide))
      by_cases h1 : b < 1
      · exact ⟨_, _, _, v_X10_years (d := d + 19) (s_X10_years_0_1 (d := d + 12) (by rw [k1]; exact n0) h1), V2, hr⟩
      · refine ⟨_, _, _, v_X10_years (d := d + 19) (s_X10_years_0_2 (d := d + 12) (by rw [k1]; exact n0) h1 ?_), V2, hr⟩
        rcases nj_or b with h0 | ⟨j, hj, rfl⟩
        · exact absurd ((ng_lt h0 (k := 1) (by omega)).mpr trivial) h1
        · have h2 := nb_nat hj (by omega) hv
          have h3 : 1 ≤ j := by
            by_cases z : 1 ≤ j
            · exact z
            · exact absurd (nI_lt (a := j) (b := 1) (by omega) (by omega)) h1
          exact nI_lt (a := 20) (by omega) (by omega)
  · exact ⟨_, _, _, v_X10_years (d := d + 19) (s_X10_years_0_0 (d := d + 12) ((x_isSeed a).2 hs)), v_X11_years (d := d + 19) (s_X11_years_0_1 (d := d + 12) ((in_0_2000000000 a).2 hs) A0 (by decide)), hr⟩
end OPS
