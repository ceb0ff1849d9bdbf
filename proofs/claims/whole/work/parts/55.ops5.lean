/-! write, paste, count, doubled. -/
theorem lj_lt {a b : Nat} (ha : a < 4611686018427387904) (hb : b < 4611686018427387904) : lN a < lN b ↔ a < b := by
  rw [Int64.lt_iff_toInt_lt, lj_toInt ha, lj_toInt hb]
  omega
theorem lj_le {a b : Nat} (ha : a < 4611686018427387904) (hb : b < 4611686018427387904) : lN a ≤ lN b ↔ a ≤ b := by
  rw [Int64.le_iff_toInt_le, lj_toInt ha, lj_toInt hb]
  omega
theorem or_or (x b : Int32) : (x ||| b) ||| b = x ||| b := by rw [Int32.or_assoc, Int32.or_self]
def exb (p : Nat → Bool) : Nat → Bool
  | 0 => false
  | i + 1 => exb p i || p i
theorem exb_mono {p : Nat → Bool} {i : Nat} (h : exb p i = true) : ∀ k, exb p (i + k) = true
  | 0 => h
  | k + 1 => by
    show (exb p (i + k) || p (i + k)) = true
    rw [exb_mono h k]
    rfl
theorem nb_out {a : Int32} {m : Nat} (hm : m < 1048576) (h : ¬ nb a 0 m) : a.toInt < 0 ∨ (m : Int) < a.toInt := by
  rcases nj_or a with h0 | ⟨j, hj, rfl⟩
  · left
    rw [Int32.lt_iff_toInt_lt] at h0
    exact h0
  · right
    have := nb_nat hj (by omega) h
    rw [nI_toInt hj]
    omega
section OPS
variable {L : Nat} {xs : Nat → Int32} {d : Nat} {SI : (Nat → Nat → Int32) → (Nat → Nat → Int64) → Prop}
theorem Rel.rows {h : xm_H} (hr : Rel SI h) : rl_rows h := by
  obtain ⟨t, ht, hR, -, -, hw, hli, hwk, -, hro, -⟩ := hr
  exact hro
theorem v_cut {h : xm_H} {s w : Nat} {v : Int64} (hs : s < 4) (hw : w ≤ 3) (e : h.1 (53 + 2 * s) 2 = nI w) : xm_V (xm_X0 L xs) xm_P (d + 8) 187 [.ref (53 + 2 * s), .long v] h (some (.long (cw w v))) h := by
  have : w = 0 ∨ w = 1 ∨ w = 2 ∨ w = 3 := by omega
  rcases this with rfl | rfl | rfl | rfl
  · exact v_X2_cut (d := d + 7) (s_X2_cut_0_0 (d := d) (rw_sh hs) e)
  · exact v_X2_cut (d := d + 7) (s_X2_cut_0_1 (d := d) (rw_sh hs) e)
  · exact v_X2_cut (d := d + 7) (s_X2_cut_0_2 (d := d) (rw_sh hs) e)
  · exact v_X2_cut (d := d + 7) (s_X2_cut_0_3 (d := d) (rw_sh hs) (by rw [e]; right; decide))
theorem n_1 {m : Nat} (hm : m < 1048576) : ¬ nI m = (-1 : Int32) := fun e => (nj_n1 (a := m) (k := 1) (by omega) (by omega) (by omega)).mp e
theorem op_write (a b : Int32) (v : Int64) : xm_opi (xm_X0 L xs) (d + 20) (Rel SI) 185 329 [.int a, .int b, .long v] := by
  intro h hr
  obtain ⟨t, ht, hR, hw, hli, hwk⟩ := hr.opn
  have n0 : ¬ (1 : Int32) = 0 := by decide
  by_cases hs : nb a 0 3
  · have m1 := (x_isSlot a).1 hs
    have m2 : F_X11_isSlot a = 1 := (in_0_3 a).1 hs
    obtain ⟨s, -, hs3, rfl⟩ := hs
    have s4 : s < 4 := by omega
    have ec : (nI s).toNatClampNeg = s := nI_clamp (by omega)
    rcases hr.rows s s4 with ⟨r0, r1⟩ | ⟨r0, m, hm, r1, r2, w, hw3, r3, r4, r5⟩
    · exact ⟨_, _, _, v_X10_write (d := d + 19) (s_X10_write_0_1 (d := d + 12) hR ht (by rw [m1]; exact n0) (g_sl s4) (rw_ref hR s4) (rw_sh s4) r0), v_X11_write (d := d + 19) (s_X11_write_0_1 (d := d + 12) hR ht (by rw [m2]; exact n0) (g_sl s4) (by rw [ec]; exact r1)), hr⟩
    · have c4 : ¬ h.1 (53 + 2 * s) 1 = 0 := by rw [r0]; exact n0
      have d4 : ¬ h.1 99 (nI s).toNatClampNeg = -1 := by rw [ec, r2]; exact n_1 (by omega)
      by_cases hj : ∃ j, j < m ∧ b = nI j
      · obtain ⟨i, hi, rfl⟩ := hj
        let g : xm_H := xm_sl h (54 + 2 * s) i (cw w v)
        have VP : xm_V (xm_X0 L xs) xm_P (d + 19) 186 [.ref (53 + 2 * s), .int (nI i), .long v] h none g := by
          have V := v_X2_put (d := d + 18) (s_X2_put_0_2 (L := L) (xs := xs) (d := d + 11) (h := h) (l0 := 53 + 2 * s) (l1 := nI i) (l2 := v) (nI_pos (by omega)) (rw_sh s4) (by rw [r1]; exact nI_ge hi (by omega)) (rw_num hR s4) (v_cut (d := d + 10) s4 hw3 r3) (rw_shn s4) (nI_in (by omega) (by omega)))
          rw [nI_clamp (by omega)] at V
          exact V
        have W1 := v_X10_write (d := d + 19) (s_X10_write_0_3 (L := L) (xs := xs) (d := d + 12) hR ht (by rw [m1]; exact n0) (g_sl s4) (rw_ref hR s4) (rw_sh s4) c4 (nI_pos (by omega)) (by rw [r1]; exact nI_lt hi (by omega)) VP)
        have W2 := v_X11_write (d := d + 19) (s_X11_write_0_3 (L := L) (xs := xs) (d := d + 12) (h := g) (t := t) (l1 := nI s) (l2 := nI i) (l3 := v) hR ht (by rw [m2]; exact n0) (g_sl s4) d4 (by
          show ¬ F_X11_in (nI i).toInt64 (0 : Int64) (((h.1 99 (nI s).toNatClampNeg) - (1 : Int32)).toInt64) = 0
          rw [ec, r2, cnt_y hi (by omega)]
          exact n0) (g_60 s4 (by omega)))
        have eg : g.1 = h.1 := rfl
        rw [ix_60, nI_clamp (by omega), ec, eg, r4, cut_m hw3] at W2
        refine ⟨_, _, _, W1, W2, ?_⟩
        refine hr.rowu (s := s) s4 rfl (fun _ _ _ _ _ => rfl) (fun q _ q1 q2 => by rw [xm_ln q2]; exact xm_ln q1) (fun _ _ => rfl) (fun _ _ => rfl) (Or.inr ⟨r0, m, hm, r1, r2, w, hw3, r3, r4, fun i' hi' => ?_⟩) (fun u hu hus => ⟨rfl, rfl, fun i' hi' => ?_⟩)
        · rw [xm_ln (show 54 + 2 * s ≠ 101 by omega)]
          by_cases hii : i' = i
          · subst hii
            rw [xm_la, xm_la]
          · rw [xm_lj (show 60 * s + i' ≠ 60 * s + i by omega), xm_lj hii, xm_ln (show (101 : Nat) ≠ 54 + 2 * s by omega)]
            exact r5 i' hi'
        · rw [xm_lj (show 60 * u + i' ≠ 60 * s + i by omega), xm_ln (show (101 : Nat) ≠ 54 + 2 * s by omega)]
      · have V2 := v_X11_write (d := d + 19) (s_X11_write_0_2 (L := L) (xs := xs) (d := d + 12) (h := h) (t := t) (l1 := nI s) (l2 := b) (l3 := v) hR ht (by rw [m2]; exact n0) (g_sl s4) d4 (by rw [ec, r2]; exact cnt_n (by omega) hj))
        by_cases h0 : b < 0
        · exact ⟨_, _, _, v_X10_write (d := d + 19) (s_X10_write_0_2 (d := d + 12) hR ht (by rw [m1]; exact n0) (g_sl s4) (rw_ref hR s4) (rw_sh s4) c4 h0), V2, hr⟩
        · refine ⟨_, _, _, v_X10_write (d := d + 19) (s_X10_write_0_4 (d := d + 12) hR ht (by rw [m1]; exact n0) (g_sl s4) (rw_ref hR s4) (rw_sh s4) c4 h0 ?_), V2, hr⟩
          obtain ⟨i, hi, rfl⟩ := nI_of h0
          rw [r1]
          apply nI_nlt _ (by omega)
          by_cases z : m ≤ i
          · exact z
          · exact absurd ⟨i, by omega, rfl⟩ hj
  · exact ⟨_, _, _, v_X10_write (d := d + 19) (s_X10_write_0_0 (d := d + 12) ((x_isSlot a).2 hs)), v_X11_write (d := d + 19) (s_X11_write_0_0 (d := d + 12) ((in_0_3 a).2 hs)), hr⟩
theorem op_doubled : xm_opi (xm_X0 L xs) (d + 20) (Rel SI) 131 293 [] := by
  intro h hr
  obtain ⟨t, ht, hR, hw, hli, hwk⟩ := hr.opn
  have n0 : ¬ (1 : Int32) = 0 := by decide
  by_cases hn : h.1 83 22 = 0
  · have q := ln_0 (t := t) hli.1 hn
    exact ⟨-2, h, h, v_X10_doubled (d := d + 19) (s_X10_doubled_0_1 (d := d + 12) hR ht (by rw [q.1]; decide)), v_X11_doubled (d := d + 19) (s_X11_doubled_0_0 (d := d + 12) hR ht q.2), hr⟩
  · have q := ln_1 (t := t) hli.1 hw.1 hn
    obtain ⟨c, hc, e6, e19, hz, hcs⟩ := calls_of hw hli
    let p : Nat → Nat → Bool := fun j o => decide (F_X0_herAct h t (nI o) = F_X0_herAct h t (nI j) ∧ F_X0_hisAct h t (nI o) = F_X0_hisAct h t (nI j))
    let f : Nat → Bool := fun j => exb (p j) j
    have V0 : ∀ j, j < c → xm_V (xm_X0 L xs) xm_P (d + 19) 132 [.ref t, .int (nI j)] h (some (.int (if f j = true then 1 else 0))) h := by
      intro j hj
      have lp : ∀ k i, k + i = j → exb (p j) i = false → xm_E (xm_X0 L xs) xm_P (d + 18) co_X0_isToldBefore 2 [some (.ref t), some (.int (nI j)), some (.int (nI i))] [] h (some (.int (if f j = true then 1 else 0))) h := by
        intro k
        induction k with
        | zero =>
          intro i hk hf
          have hij : i = j := by omega
          subst hij
          have hf' : ¬ f i = true := by
            show ¬ exb (p i) i = true
            rw [hf]
            decide
          rw [if_neg hf']
          exact s_X0_isToldBefore_2_0 (d := d + 11) ht (nI_le (by omega) (by omega))
        | succ k ih =>
          intro i hk hf
          have c0 : ¬ nI j ≤ nI i := nI_ge (by omega) (by omega)
          have es : exb (p j) (i + 1) = (exb (p j) i || p j i) := rfl
          by_cases h1 : F_X0_herAct h t (nI i) = F_X0_herAct h t (nI j)
          · by_cases h2 : F_X0_hisAct h t (nI i) = F_X0_hisAct h t (nI j)
            · have hf' : f j = true := by
                have := exb_mono (p := p j) (i := i + 1) (by rw [es, show p j i = true from decide_eq_true ⟨h1, h2⟩, Bool.or_true]) (j - (i + 1))
                rw [show i + 1 + (j - (i + 1)) = j by omega] at this
                exact this
              rw [if_pos hf']
              exact s_X0_isToldBefore_2_1 (d := d + 11) hR ht c0 h1 h2
            · refine s_X0_isToldBefore_2_2 (d := d + 11) hR ht c0 h1 h2 ?_
              rw [nI_1]
              exact ih (i + 1) (by omega) (by rw [es, hf, show p j i = false from decide_eq_false (fun z => h2 z.2)]; rfl)
          · refine s_X0_isToldBefore_2_3 (d := d + 11) hR ht c0 h1 ?_
            rw [nI_1]
            exact ih (i + 1) (by omega) (by rw [es, hf, show p j i = false from decide_eq_false (fun z => h1 z.1)]; rfl)
      exact v_X0_isToldBefore (d := d + 18) (s_X0_isToldBefore_0_0 (d := d + 11) ht (lp j 0 (by omega) rfl))
    have lp1 : ∀ k i, k + i = c → xm_E (xm_X0 L xs) xm_P (d + 19) co_X10_doubled 10 [some (.ref 0), some (.int (bts f i)), some (.int (nI i))] [] h (some (.int (bts f c))) h := by
      intro k
      induction k with
      | zero =>
        intro i hk
        have hic : i = c := by omega
        subst hic
        exact s_X10_doubled_10_0 (d := d + 12) hR ht (by rw [e6]; exact nI_le (by omega) (by omega))
      | succ k ih =>
        intro i hk
        have hlt : ¬ (h.1 t 6 ≤ nI i) := by rw [e6]; exact nI_ge (by omega) (by omega)
        have e := ih (i + 1) (by omega)
        have V := V0 i (by omega)
        by_cases hf : f i = true
        · rw [if_pos hf] at V
          refine s_X10_doubled_10_2 (d := d + 12) hR ht hlt V n0 ?_
          rw [nI_1]
          have e1 : bts f (i + 1) = bts f i ||| ((1 : Int32) <<< (nI i &&& 31)) := if_pos hf
          rw [← e1]
          exact e
        · rw [if_neg hf] at V
          refine s_X10_doubled_10_1 (d := d + 12) hR ht hlt V rfl ?_
          rw [nI_1]
          have e1 : bts f (i + 1) = bts f i := if_neg hf
          rw [← e1]
          exact e
    have lp2 : ∀ k i (o3 : Option Value), k + i = c → xm_E (xm_X0 L xs) xm_P (d + 19) co_X11_doubled 9 [some (.ref 82), some (.int (bts f i)), some (.int (nI i)), o3] [] h (some (.int (bts f c))) h := by
      intro k
      induction k with
      | zero =>
        intro i o3 hk
        have hic : i = c := by omega
        subst hic
        exact s_X11_doubled_9_0 (d := d + 12) hR ht (by rw [e19]; exact nI_le (by omega) (by omega))
      | succ k ih =>
        intro j o3 hk
        obtain ⟨p1, q1, hp1, hq1, b1, b2, b3, b4⟩ := hcs j (by omega)
        have inner : ∀ k' i, k' + i = j → xm_E (xm_X0 L xs) xm_P (d + 19) co_X11_doubled 17 [some (.ref 82), some (.int (if exb (p j) i = true then bts f j ||| ((1 : Int32) <<< (nI j &&& 31)) else bts f j)), some (.int (nI j)), some (.int (nI i))] [] h (some (.int (bts f c))) h := by
          intro k'
          induction k' with
          | zero =>
            intro i hk'
            have hij : i = j := by omega
            subst hij
            refine s_X11_doubled_17_0 (d := d + 12) (nI_le (by omega) (by omega)) ?_
            rw [nI_1]
            exact ih (i + 1) _ (by omega)
          | succ k' ih' =>
            intro i hk'
            have c0 : ¬ nI j ≤ nI i := nI_ge (by omega) (by omega)
            have es : exb (p j) (i + 1) = (exb (p j) i || p j i) := rfl
            have e := ih' (i + 1) (by omega)
            obtain ⟨p2, q2', hp2, hq2, d1, d2, d3, d4⟩ := hcs i (by omega)
            by_cases h1 : F_X11_her h t (nI j) = F_X11_her h t (nI i)
            · by_cases h2 : F_X11_his h t (nI j) = F_X11_his h t (nI i)
              · refine s_X11_doubled_17_1 (d := d + 12) hR ht c0 (g_her (by omega)) (g_her (by omega)) h1 (g_his (by omega)) (g_his (by omega)) h2 ?_
                have hp : p j i = true := decide_eq_true ⟨by rw [b1, d1, ← b3, ← d3]; exact h1.symm, by rw [b2, d2, ← b4, ← d4]; exact h2.symm⟩
                rw [es, hp, Bool.or_true, if_pos rfl] at e
                rw [nI_1]
                by_cases hx : exb (p j) i = true
                · rw [if_pos hx, or_or]
                  exact e
                · rw [if_neg hx]
                  exact e
              · refine s_X11_doubled_17_2 (d := d + 12) hR ht c0 (g_her (by omega)) (g_her (by omega)) h1 (g_his (by omega)) (g_his (by omega)) h2 ?_
                have hp : p j i = false := decide_eq_false (fun z => h2 (by rw [b4, d4, ← b2, ← d2]; exact z.2.symm))
                rw [es, hp, Bool.or_false] at e
                rw [nI_1, or_z]
                exact e
            · refine s_X11_doubled_17_3 (d := d + 12) hR ht c0 (g_her (by omega)) (g_her (by omega)) h1 ?_
              have hp : p j i = false := decide_eq_false (fun z => h1 (by rw [b3, d3, ← b1, ← d1]; exact z.1.symm))
              rw [es, hp, Bool.or_false] at e
              rw [nI_1, or_z]
              exact e
        exact s_X11_doubled_9_1 (d := d + 12) hR ht (by rw [e19]; exact nI_ge (by omega) (by omega)) (inner j 0 (by omega))
    exact ⟨_, _, _, v_X10_doubled (d := d + 19) (s_X10_doubled_0_0 (d := d + 12) hR ht q.1 (lp1 c 0 (by omega))), v_X11_doubled (d := d + 19) (s_X11_doubled_0_1 (d := d + 12) hR ht (by rw [q.2]; decide) (lp2 c 0 none (by omega))), hr⟩
theorem op_count (a : Int32) : xm_opi (xm_X0 L xs) (d + 20) (Rel SI) 173 327 [.int a] := by
  intro h hr
  have hr0 := hr
  obtain ⟨t, ht, hR, htp, -, hw, hli, hwk, -, hro, -⟩ := hr
  have n0 : ¬ (1 : Int32) = 0 := by decide
  by_cases hb : nb a 0 10
  · obtain ⟨j, -, hj, rfl⟩ := hb
    obtain ⟨l0, l1, l2, l3, l4, l5, l6, l7, l8, l9, l10, l11, l12, l13, -⟩ := hli
    have : j = 0 ∨ j = 1 ∨ j = 2 ∨ j = 3 ∨ j = 4 ∨ j = 5 ∨ j = 6 ∨ j = 7 ∨ j = 8 ∨ j = 9 ∨ j = 10 := by omega
    rcases this with rfl | rfl | rfl | rfl | rfl | rfl | rfl | rfl | rfl | rfl | rfl
    · have W1 := v_X10_count (d := d + 19) (s_X10_count_0_0 (L := L) (xs := xs) (d := d + 12) (l1 := nI 0) hR ht rfl)
      rw [l6] at W1
      exact ⟨_, _, _, W1, v_X11_count (d := d + 19) (s_X11_count_0_0 (d := d + 12) hR ht rfl), hr0⟩
    · have W1 := v_X10_count (d := d + 19) (s_X10_count_0_1 (L := L) (xs := xs) (d := d + 12) (l1 := nI 1) hR ht rfl)
      rw [l10] at W1
      exact ⟨_, _, _, W1, v_X11_count (d := d + 19) (s_X11_count_0_1 (d := d + 12) hR ht rfl), hr0⟩
    · have W1 := v_X10_count (d := d + 19) (s_X10_count_0_2 (L := L) (xs := xs) (d := d + 12) (l1 := nI 2) hR ht rfl)
      rw [l11] at W1
      exact ⟨_, _, _, W1, v_X11_count (d := d + 19) (s_X11_count_0_2 (d := d + 12) hR ht rfl), hr0⟩
    · have W1 := v_X10_count (d := d + 19) (s_X10_count_0_3 (L := L) (xs := xs) (d := d + 12) (l1 := nI 3) hR ht rfl)
      rw [l4] at W1
      exact ⟨_, _, _, W1, v_X11_count (d := d + 19) (s_X11_count_0_3 (d := d + 12) hR ht rfl), hr0⟩
    · have W1 := v_X10_count (d := d + 19) (s_X10_count_0_4 (L := L) (xs := xs) (d := d + 12) (l1 := nI 4) hR ht rfl)
      rw [l5] at W1
      exact ⟨_, _, _, W1, v_X11_count (d := d + 19) (s_X11_count_0_4 (d := d + 12) hR ht rfl), hr0⟩
    · have W1 := v_X10_count (d := d + 19) (s_X10_count_0_5 (L := L) (xs := xs) (d := d + 12) (l1 := nI 5) hR ht rfl)
      rw [l9] at W1
      exact ⟨_, _, _, W1, v_X11_count (d := d + 19) (s_X11_count_0_5 (d := d + 12) hR ht rfl), hr0⟩
    · have W1 := v_X10_count (d := d + 19) (s_X10_count_0_6 (L := L) (xs := xs) (d := d + 12) (l1 := nI 6) hR ht rfl)
      rw [hwk.1] at W1
      exact ⟨_, _, _, W1, v_X11_count (d := d + 19) (s_X11_count_0_6 (d := d + 12) hR ht rfl), hr0⟩
    · have W2 := v_X11_count (d := d + 19) (s_X11_count_0_7 (L := L) (xs := xs) (d := d + 12) (l1 := nI 7) hR ht rfl)
      rcases hw.2.2.2.2.2.1 with h13 | ⟨h13, ⟨x, hx1, hx2, ex⟩, -⟩
      · rw [h13] at W2
        exact ⟨_, _, _, v_X10_count (d := d + 19) (s_X10_count_0_7 (d := d + 12) hR ht rfl (by unfold F_X8_isMade; rw [l12 h13, if_pos (by decide)])), W2, hr0⟩
      · rw [h13] at W2
        refine ⟨_, _, _, v_X10_count (d := d + 19) (s_X10_count_0_8 (d := d + 12) hR ht rfl ?_), W2, hr0⟩
        unfold F_X8_isMade
        rw [(l13 h13).1, ex, if_neg (nI_nle (by omega) (by omega))]
        exact n0
    · have W1 := v_X10_count (d := d + 19) (s_X10_count_0_9 (L := L) (xs := xs) (d := d + 12) (l1 := nI 8) hR ht rfl)
      rw [l0] at W1
      exact ⟨_, _, _, W1, v_X11_count (d := d + 19) (s_X11_count_0_8 (d := d + 12) hR ht rfl), hr0⟩
    · obtain ⟨n, hn, h1, h5, -⟩ := htp
      have W1 := v_X10_count (d := d + 19) (s_X10_count_0_10 (L := L) (xs := xs) (d := d + 12) (l1 := nI 9) hR ht rfl)
      have W2 := v_X11_count (d := d + 19) (s_X11_count_0_9 (L := L) (xs := xs) (d := d + 12) (h := h) (l1 := nI 9) rfl)
      rw [h1] at W1
      rw [h5] at W2
      exact ⟨_, _, _, W1, W2, hr0⟩
    · have loop : ∀ k i (r : Int32), k + i = 4 → ∃ r' : Int32, xm_E (xm_X0 L xs) xm_P (d + 18) co_X10_slotsHeld 4 [some (.ref 0), some (.int r), some (.int (nI i))] [] h (some (.int r')) h ∧ xm_E (xm_X0 L xs) xm_P (d + 19) co_X11_count 54 [some (.ref 82), some (.int (nI 10)), some (.int r), some (.int (nI i))] [] h (some (.int r')) h := by
        intro k
        induction k with
        | zero =>
          intro i r hk
          have hic : i = 4 := by omega
          subst hic
          exact ⟨r, s_X10_slotsHeld_4_0 (d := d + 11) (by decide), s_X11_count_54_0 (d := d + 12) (by decide)⟩
        | succ k ih =>
          intro i r hk
          have s4 : i < 4 := by omega
          have c0 : ¬ (4 : Int32) ≤ nI i := nI_ge (b := 4) (by omega) (by omega)
          have ec : (nI i).toNatClampNeg = i := nI_clamp (by omega)
          rcases hro i s4 with ⟨r0, r1⟩ | ⟨r0, m, hm, r1, r2, -⟩
          · obtain ⟨r', E1, E2⟩ := ih (i + 1) r (by omega)
            refine ⟨r', s_X10_slotsHeld_4_1 (d := d + 11) hR ht c0 (g_sl s4) (rw_ref hR s4) (rw_sh s4) r0 (by rw [nI_1]; exact E1), s_X11_count_54_1 (d := d + 12) hR ht c0 (g_sl s4) (by rw [ec]; exact r1) ?_⟩
            rw [nI_1, Int32.add_zero]
            exact E2
          · obtain ⟨r', E1, E2⟩ := ih (i + 1) (r + 1) (by omega)
            exact ⟨r', s_X10_slotsHeld_4_2 (d := d + 11) hR ht c0 (g_sl s4) (rw_ref hR s4) (rw_sh s4) (by rw [r0]; exact n0) (by rw [nI_1]; exact E1), s_X11_count_54_2 (d := d + 12) hR ht c0 (g_sl s4) (by rw [ec, r2]; exact n_1 (by omega)) (by rw [nI_1]; exact E2)⟩
      obtain ⟨r', E1, E2⟩ := loop 4 0 0 (by omega)
      exact ⟨_, _, _, v_X10_count (d := d + 19) (s_X10_count_0_11 (d := d + 12) rfl (v_X10_slotsHeld (d := d + 18) (s_X10_slotsHeld_0_0 (d := d + 11) E1))), v_X11_count (d := d + 19) (s_X11_count_0_10 (d := d + 12) rfl E2), hr0⟩
  · have hq := nb_out (m := 10) (by omega) hb
    exact ⟨_, _, _, v_X10_count (d := d + 19) (s_X10_count_0_12 (d := d + 12) hq), v_X11_count (d := d + 19) (s_X11_count_0_11 (d := d + 12) hq), hr0⟩
end OPS
