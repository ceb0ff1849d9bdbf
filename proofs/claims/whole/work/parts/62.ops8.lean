/-! paste, feed. -/
section OPS
variable {L : Nat} {xs : Nat → Int32} {d : Nat} {SI : (Nat → Nat → Int32) → (Nat → Nat → Int64) → Prop}
theorem v_run1 {h : xm_H} {s m f n : Nat} (s4 : s < 4) (hm : m ≤ 60) (e3 : h.1 (53 + 2 * s) 3 = nI m) (hf : f < 2147483648) (hn : n < 2147483648) (hr : f + n ≤ m) : xm_V (xm_X0 L xs) xm_P (d + 8) 189 [.ref (53 + 2 * s), .int (nI f), .int (nI n)] h (some (.int 1)) h :=
  v_X2_hasRun (d := d + 7) (s_X2_hasRun_0_4 (d := d) (nI_pos hf) (nI_pos hn) (rw_sh s4) (by rw [e3]; exact nI_nlt (by omega) (by omega)) (by rw [e3, nm_sub (by omega)]; exact nI_nlt (by omega) (by omega)))
theorem v_run0 {h : xm_H} {s m : Nat} {a b : Int32} (s4 : s < 4) (hm : m ≤ 60) (e3 : h.1 (53 + 2 * s) 3 = nI m) (hn : ¬ ∃ f n, a = nI f ∧ b = nI n ∧ f + n ≤ m) : xm_V (xm_X0 L xs) xm_P (d + 8) 189 [.ref (53 + 2 * s), .int a, .int b] h (some (.int 0)) h := by
  by_cases a0 : a < 0
  · exact v_X2_hasRun (d := d + 7) (s_X2_hasRun_0_0 (d := d) a0)
  · by_cases b0 : b < 0
    · exact v_X2_hasRun (d := d + 7) (s_X2_hasRun_0_1 (d := d) a0 b0)
    · obtain ⟨f, hf, rfl⟩ := nI_of a0
      obtain ⟨n, hn', rfl⟩ := nI_of b0
      by_cases h1 : m < n
      · exact v_X2_hasRun (d := d + 7) (s_X2_hasRun_0_2 (d := d) a0 b0 (rw_sh s4) (by rw [e3]; exact nI_lt h1 hn'))
      · refine v_X2_hasRun (d := d + 7) (s_X2_hasRun_0_3 (d := d) a0 b0 (rw_sh s4) (by rw [e3]; exact nI_nlt (by omega) (by omega)) ?_)
        rw [e3, nm_sub (by omega)]
        apply nI_lt _ hf
        by_cases z : f + n ≤ m
        · exact absurd ⟨f, n, rfl, rfl, z⟩ hn
        · omega
theorem lN_cmp {f n m : Nat} (hf : f < 2147483648) (hn : n < 2147483648) (hm : m < 2147483648) : ((0 : Int32) < lg_cmp ((nI f).toInt64 + (nI n).toInt64) ((nI m).toInt64) ↔ m < f + n) ∧ (lg_cmp ((nI f).toInt64 + (nI n).toInt64) ((nI m).toInt64) ≤ (0 : Int32) ↔ f + n ≤ m) := by
  rw [nI_l hf, nI_l hn, nI_l hm, lN_add, lg_cmp_gt, lg_cmp_le, lj_lt (by omega) (by omega), lj_le (by omega) (by omega)]
  exact ⟨Iff.rfl, Iff.rfl⟩
theorem cl_1 {h : xm_H} {p q sp dp n : Nat} : (xm_cl_cpy h p q sp dp n).1 = h.1 := rfl
theorem cl_2 {h : xm_H} {p q sp dp n : Nat} : (xm_cl_cpy h p q sp dp n).2.2 = h.2.2 := rfl
theorem cl_n {h : xm_H} {p q sp dp n r : Nat} (hr : r ≠ q) : (xm_cl_cpy h p q sp dp n).2.1 r = h.2.1 r := if_neg hr
theorem cl_q {h : xm_H} {p q sp dp n k : Nat} : (xm_cl_cpy h p q sp dp n).2.1 q k = if dp ≤ k ∧ k < dp + n then h.2.1 p (sp + (k - dp)) else h.2.1 q k := by
  show (if q = q then va_cpy (h.2.1 p) (h.2.1 q) sp dp n else h.2.1 q) k = _
  rw [if_pos rfl]
  rfl
theorem op_paste (a b c e f : Int32) : xm_opi (xm_X0 L xs) (d + 20) (Rel SI) 188 331 [.int a, .int b, .int c, .int e, .int f] := by
  intro h hr
  obtain ⟨t, ht, hR, hw, hli, hwk⟩ := hr.opn
  have n0 : ¬ (1 : Int32) = 0 := by decide
  by_cases hs : nb a 0 3
  · have m1 : ¬ F_X10_isSlot a = 0 := by rw [(x_isSlot a).1 hs]; exact n0
    have m2 : ¬ F_X11_isSlot a = 0 := by rw [show F_X11_isSlot a = 1 from (in_0_3 a).1 hs]; exact n0
    by_cases hu : nb c 0 3
    · have k1 : ¬ F_X10_isSlot c = 0 := by rw [(x_isSlot c).1 hu]; exact n0
      have k2 : ¬ F_X11_isSlot c = 0 := by rw [show F_X11_isSlot c = 1 from (in_0_3 c).1 hu]; exact n0
      obtain ⟨s, -, hs3, rfl⟩ := hs
      obtain ⟨u, -, hu3, rfl⟩ := hu
      have s4 : s < 4 := by omega
      have u4 : u < 4 := by omega
      have es : (nI s).toNatClampNeg = s := nI_clamp (by omega)
      have eu : (nI u).toNatClampNeg = u := nI_clamp (by omega)
      rcases hr.rows s s4 with ⟨r0, r1⟩ | ⟨r0, m, hm, r1, r2, w, hw3, r3, r4, r5⟩
      · exact ⟨_, _, _, v_X10_paste (d := d + 19) (s_X10_paste_0_2 (d := d + 12) hR ht m1 k1 (g_sl s4) (rw_ref hR s4) (g_sl u4) (rw_ref hR u4) (rw_sh s4) r0), v_X11_paste (d := d + 19) (s_X11_paste_0_2 (d := d + 12) hR ht m2 k2 (g_sl s4) (by rw [es]; exact r1)), hr⟩
      · have c4 : ¬ h.1 (53 + 2 * s) 1 = 0 := by rw [r0]; exact n0
        have d4 : ¬ h.1 99 (nI s).toNatClampNeg = -1 := by rw [es, r2]; exact n_1 (by omega)
        rcases hr.rows u u4 with ⟨v0, v1⟩ | ⟨v0, mu, hmu, v1, v2, wu, hwu, v3, v4, v5⟩
        · exact ⟨_, _, _, v_X10_paste (d := d + 19) (s_X10_paste_0_3 (d := d + 12) hR ht m1 k1 (g_sl s4) (rw_ref hR s4) (g_sl u4) (rw_ref hR u4) (rw_sh s4) c4 (rw_sh u4) v0), v_X11_paste (d := d + 19) (s_X11_paste_0_3 (d := d + 12) hR ht m2 k2 (g_sl s4) d4 (g_sl u4) (by rw [eu]; exact v1)), hr⟩
        · have c5 : ¬ h.1 (53 + 2 * u) 1 = 0 := by rw [v0]; exact n0
          have d5 : ¬ h.1 99 (nI u).toNatClampNeg = -1 := by rw [eu, v2]; exact n_1 (by omega)
          by_cases hww : w = wu
          · subst hww
            have ew : h.1 (53 + 2 * s) 2 = h.1 (53 + 2 * u) 2 := by rw [r3, v3]
            have fw : h.1 100 (nI s).toNatClampNeg = h.1 100 (nI u).toNatClampNeg := by rw [es, eu, r4, v4]
            have bad : (¬ ∃ f' n, b = nI f' ∧ f = nI n ∧ f' + n ≤ m) ∨ (¬ ∃ f' n, e = nI f' ∧ f = nI n ∧ f' + n ≤ mu) → xm_V (xm_X0 L xs) xm_P (d + 20) 331 [.ref 82, .int (nI s), .int b, .int (nI u), .int e, .int f] h (some (.int (-7))) h := by
              intro hbad
              by_cases b0 : b < 0
              · exact v_X11_paste (d := d + 19) (s_X11_paste_0_4 (d := d + 12) hR ht m2 k2 (g_sl s4) d4 (g_sl u4) d5 fw b0)
              · by_cases e0 : e < 0
                · exact v_X11_paste (d := d + 19) (s_X11_paste_0_5 (d := d + 12) hR ht m2 k2 (g_sl s4) d4 (g_sl u4) d5 fw b0 e0)
                · by_cases f0 : f < 0
                  · exact v_X11_paste (d := d + 19) (s_X11_paste_0_6 (d := d + 12) hR ht m2 k2 (g_sl s4) d4 (g_sl u4) d5 fw b0 e0 f0)
                  · obtain ⟨fb, hfb, rfl⟩ := nI_of b0
                    obtain ⟨fe, hfe, rfl⟩ := nI_of e0
                    obtain ⟨nn, hnn, rfl⟩ := nI_of f0
                    have l1 := lN_cmp hfb hnn (show m < 2147483648 by omega)
                    have l2 := lN_cmp hfe hnn (show mu < 2147483648 by omega)
                    by_cases z1 : fb + nn ≤ m
                    · refine v_X11_paste (d := d + 19) (s_X11_paste_0_9 (d := d + 12) hR ht m2 k2 (g_sl s4) d4 (g_sl u4) d5 fw b0 e0 f0 (by rw [es, r2, l1.1]; omega) ?_)
                      rw [eu, v2, l2.2]
                      intro z2
                      rcases hbad with z | z
                      · exact z ⟨fb, nn, rfl, rfl, z1⟩
                      · exact z ⟨fe, nn, rfl, rfl, z2⟩
                    · exact v_X11_paste (d := d + 19) (s_X11_paste_0_7 (d := d + 12) hR ht m2 k2 (g_sl s4) d4 (g_sl u4) d5 fw b0 e0 f0 (by rw [es, r2, l1.1]; omega))
            by_cases h1 : ∃ f' n, b = nI f' ∧ f = nI n ∧ f' + n ≤ m
            · obtain ⟨fb, nn, rfl, rfl, z1⟩ := h1
              have R1 := v_run1 (L := L) (xs := xs) (d := d + 11) (h := h) s4 hm r1 (show fb < 2147483648 by omega) (show nn < 2147483648 by omega) z1
              by_cases h2 : ∃ f' n, e = nI f' ∧ nI nn = nI n ∧ f' + n ≤ mu
              · obtain ⟨fe, n2, rfl, e2, z2⟩ := h2
                rw [nI_eq (by omega) (by omega)] at e2
                subst e2
                have R2 := v_run1 (L := L) (xs := xs) (d := d + 11) (h := h) u4 hmu v1 (show fe < 2147483648 by omega) (show nn < 2147483648 by omega) z2
                have W1 := v_X10_paste (d := d + 19) (s_X10_paste_0_6 (L := L) (xs := xs) (d := d + 12) hR ht m1 k1 (g_sl s4) (rw_ref hR s4) (g_sl u4) (rw_ref hR u4) (rw_sh s4) c4 (rw_sh u4) c5 ew R1 n0 R2 n0 (rw_num hR s4) (rw_num hR u4) (rw_shn s4) (rw_shn u4) (by
                  rw [nI_clamp (by omega), nI_clamp (by omega), nI_clamp (by omega)]
                  intro z
                  rcases z with z | z | z | z | z | z
                  · exact nI_pos (by omega) z
                  · exact nI_pos (by omega) z
                  · exact nI_pos (by omega) z
                  · omega
                  · omega
                  · exact absurd z (by decide)))
                rw [nI_clamp (by omega), nI_clamp (by omega), nI_clamp (by omega)] at W1
                let g : xm_H := xm_cl_cpy h (54 + 2 * s) (54 + 2 * u) fb fe nn
                have g101 : g.2.1 101 = h.2.1 101 := cl_n (by omega)
                have ixs : ∀ i, (((60 : Int32) * nI s) + nI fb) + nI i = nI (60 * s + fb + i) := fun i => by rw [ix_60, nI_add]
                have ixu : ∀ i, (((60 : Int32) * nI u) + nI fe) + nI i = nI (60 * u + fe + i) := fun i => by rw [ix_60, nI_add]
                have lp2 : ∀ k i (z : xm_H), k + i = nn → z.2.2 = h.2.2 → z.1 = h.1 → (∀ q, q ≠ 101 → q ≠ 102 → z.2.1 q = g.2.1 q) → (∀ j, j < nn → z.2.1 102 j = h.2.1 101 (60 * s + fb + j)) → (∀ j, z.2.1 101 j = if 60 * u + fe ≤ j ∧ j < 60 * u + fe + i then h.2.1 101 (60 * s + fb + (j - (60 * u + fe))) else h.2.1 101 j) → ∃ z', xm_E (xm_X0 L xs) xm_P (d + 19) co_X11_paste 88 [some (.ref 82), some (.int (nI s)), some (.int (nI fb)), some (.int (nI u)), some (.int (nI fe)), some (.int (nI nn)), some (.int (nI i))] [] z (some (.int 0)) z' ∧ z'.2.2 = h.2.2 ∧ z'.1 = h.1 ∧ (∀ q, q ≠ 101 → q ≠ 102 → z'.2.1 q = g.2.1 q) ∧ (∀ j, z'.2.1 101 j = if 60 * u + fe ≤ j ∧ j < 60 * u + fe + nn then h.2.1 101 (60 * s + fb + (j - (60 * u + fe))) else h.2.1 101 j) := by
                  intro k
                  induction k with
                  | zero =>
                    intro i z hk a1 a2 a3 a4 a5
                    have hic : i = nn := by omega
                    subst hic
                    exact ⟨z, s_X11_paste_88_0 (d := d + 12) (nI_le (by omega) (by omega)), a1, a2, a3, a5⟩
                  | succ k ih =>
                    intro i z hk a1 a2 a3 a4 a5
                    have zR : z.2.2 = xm_R0 t := by rw [a1]; exact hR
                    obtain ⟨z', b0, b⟩ := ih (i + 1) (xm_sl z 101 (60 * u + fe + i) (z.2.1 102 i)) (by omega) a1 a2 (fun q q1 q2 => by rw [xm_ln q1]; exact a3 q q1 q2) (fun j hj => by rw [xm_ln (by decide)]; exact a4 j hj) (fun j => by
                      by_cases hji : j = 60 * u + fe + i
                      · subst hji
                        rw [xm_la, a4 i (by omega), if_pos (by omega)]
                        exact congrArg (h.2.1 101) (by omega)
                      · rw [xm_lj hji, a5 j]
                        by_cases hc : 60 * u + fe ≤ j ∧ j < 60 * u + fe + i
                        · rw [if_pos hc, if_pos (by omega)]
                        · rw [if_neg hc, if_neg (by omega)])
                    refine ⟨z', ?_, b⟩
                    refine s_X11_paste_88_1 (d := d + 12) zR ht (nI_ge (by omega) (by omega)) (nI_in (by omega) (by omega)) (by rw [ixu]; exact nI_in (by omega) (by omega)) ?_
                    rw [ixu, nI_clamp (by omega), nI_clamp (by omega), nI_1]
                    exact b0
                have lp1 : ∀ k i (z : xm_H), k + i = nn → z.2.2 = h.2.2 → z.1 = h.1 → (∀ q, q ≠ 102 → z.2.1 q = g.2.1 q) → (∀ j, j < i → z.2.1 102 j = h.2.1 101 (60 * s + fb + j)) → ∃ z', xm_E (xm_X0 L xs) xm_P (d + 19) co_X11_paste 67 [some (.ref 82), some (.int (nI s)), some (.int (nI fb)), some (.int (nI u)), some (.int (nI fe)), some (.int (nI nn)), some (.int (nI i))] [] z (some (.int 0)) z' ∧ z'.2.2 = h.2.2 ∧ z'.1 = h.1 ∧ (∀ q, q ≠ 101 → q ≠ 102 → z'.2.1 q = g.2.1 q) ∧ (∀ j, z'.2.1 101 j = if 60 * u + fe ≤ j ∧ j < 60 * u + fe + nn then h.2.1 101 (60 * s + fb + (j - (60 * u + fe))) else h.2.1 101 j) := by
                  intro k
                  induction k with
                  | zero =>
                    intro i z hk a1 a2 a3 a4
                    have hic : i = nn := by omega
                    subst hic
                    obtain ⟨z', b0, b⟩ := lp2 i 0 z (by omega) a1 a2 (fun q _ q2 => a3 q q2) a4 (fun j => by rw [a3 101 (by decide), g101, if_neg (by omega)])
                    exact ⟨z', s_X11_paste_67_0 (d := d + 12) (nI_le (by omega) (by omega)) b0, b⟩
                  | succ k ih =>
                    intro i z hk a1 a2 a3 a4
                    have zR : z.2.2 = xm_R0 t := by rw [a1]; exact hR
                    have z101 : z.2.1 101 = h.2.1 101 := by rw [a3 101 (by decide), g101]
                    obtain ⟨z', b0, b⟩ := ih (i + 1) (xm_sl z 102 i (h.2.1 101 (60 * s + fb + i))) (by omega) a1 a2 (fun q q1 => by rw [xm_ln q1]; exact a3 q q1) (fun j hj => by
                      by_cases hji : j = i
                      · subst hji
                        rw [xm_la]
                      · rw [xm_lj hji]
                        exact a4 j (by omega))
                    refine ⟨z', ?_, b⟩
                    refine s_X11_paste_67_1 (d := d + 12) zR ht (nI_ge (by omega) (by omega)) (by rw [ixs]; exact nI_in (by omega) (by omega)) (nI_in (by omega) (by omega)) ?_
                    rw [ixs, nI_clamp (by omega), nI_clamp (by omega), nI_1, z101]
                    exact b0
                obtain ⟨z', b0, b1, b2, b3, b4⟩ := lp1 nn 0 g (by omega) rfl rfl (fun _ _ => rfl) (fun j hj => absurd hj (by omega))
                have l1 := lN_cmp (f := fb) (n := nn) (m := m) (by omega) (by omega) (by omega)
                have l2 := lN_cmp (f := fe) (n := nn) (m := mu) (by omega) (by omega) (by omega)
                have W2 := v_X11_paste (d := d + 19) (s_X11_paste_0_8 (L := L) (xs := xs) (d := d + 12) (h := g) (t := t) (l1 := nI s) (l2 := nI fb) (l3 := nI u) (l4 := nI fe) (l5 := nI nn) hR ht m2 k2 (g_sl s4) d4 (g_sl u4) d5 fw (nI_pos (by omega)) (nI_pos (by omega)) (nI_pos (by omega)) (by show ¬ (0 : Int32) < lg_cmp ((nI fb).toInt64 + (nI nn).toInt64) ((h.1 99 (nI s).toNatClampNeg).toInt64); rw [es, r2, l1.1]; omega) (by show lg_cmp ((nI fe).toInt64 + (nI nn).toInt64) ((h.1 99 (nI u).toNatClampNeg).toInt64) ≤ (0 : Int32); rw [eu, v2, l2.2]; exact z2) b0)
                refine ⟨_, _, _, W1, W2, ?_⟩
                refine hr.rowu (s := u) u4 b1 (fun q _ _ _ _ => by rw [b2]) (fun q hq q1 q2 => by rw [b3 q q2 (by unfold rl_cell at hq; omega)]; exact cl_n q1) (fun j _ => by rw [b2]) (fun j _ => by rw [b2]) (Or.inr ⟨by rw [b2]; exact v0, mu, hmu, by rw [b2]; exact v1, by rw [b2]; exact v2, w, hw3, by rw [b2]; exact v3, by rw [b2]; exact v4, fun i hi => ?_⟩) (fun x hx hxu => ⟨by rw [b2], by rw [b2], fun i hi => ?_⟩)
                · rw [b3 (54 + 2 * u) (by omega) (by omega), b4 (60 * u + i)]
                  show (xm_cl_cpy h (54 + 2 * s) (54 + 2 * u) fb fe nn).2.1 (54 + 2 * u) i = _
                  rw [cl_q]
                  by_cases hc : fe ≤ i ∧ i < fe + nn
                  · rw [if_pos hc, if_pos (by omega), r5 (fb + (i - fe)) (by omega)]
                    exact congrArg (h.2.1 101) (by omega)
                  · rw [if_neg hc, if_neg (by omega)]
                    exact v5 i hi
                · rw [b4 (60 * x + i), if_neg]
                  omega
              · exact ⟨_, _, _, v_X10_paste (d := d + 19) (s_X10_paste_0_5 (d := d + 12) hR ht m1 k1 (g_sl s4) (rw_ref hR s4) (g_sl u4) (rw_ref hR u4) (rw_sh s4) c4 (rw_sh u4) c5 ew R1 n0 (v_run0 (d := d + 11) u4 hmu v1 h2) rfl), bad (Or.inr h2), hr⟩
            · exact ⟨_, _, _, v_X10_paste (d := d + 19) (s_X10_paste_0_4 (d := d + 12) hR ht m1 k1 (g_sl s4) (rw_ref hR s4) (g_sl u4) (rw_ref hR u4) (rw_sh s4) c4 (rw_sh u4) c5 ew (v_run0 (d := d + 11) s4 hm r1 h1) rfl), bad (Or.inl h1), hr⟩
          · exact ⟨_, _, _, v_X10_paste (d := d + 19) (s_X10_paste_0_7 (d := d + 12) hR ht m1 k1 (g_sl s4) (rw_ref hR s4) (g_sl u4) (rw_ref hR u4) (rw_sh s4) c4 (rw_sh u4) c5 (by rw [r3, v3, nI_eq (by omega) (by omega)]; exact hww)), v_X11_paste (d := d + 19) (s_X11_paste_0_10 (d := d + 12) hR ht m2 k2 (g_sl s4) d4 (g_sl u4) d5 (by rw [es, eu, r4, v4, nI_eq (by omega) (by omega)]; exact hww)), hr⟩
    · exact ⟨_, _, _, v_X10_paste (d := d + 19) (s_X10_paste_0_1 (d := d + 12) m1 ((x_isSlot c).2 hu)), v_X11_paste (d := d + 19) (s_X11_paste_0_1 (d := d + 12) m2 ((in_0_3 c).2 hu)), hr⟩
  · exact ⟨_, _, _, v_X10_paste (d := d + 19) (s_X10_paste_0_0 (d := d + 12) ((x_isSlot a).2 hs)), v_X11_paste (d := d + 19) (s_X11_paste_0_0 (d := d + 12) ((in_0_3 a).2 hs)), hr⟩
end OPS
