/-! chance, paste. -/
def cn (f : Nat → Bool) : Nat → Nat
  | 0 => 0
  | i + 1 => cn f i + (if f i = true then 1 else 0)
theorem cn_le {f : Nat → Bool} (i : Nat) : ∀ k, cn f i ≤ cn f (i + k)
  | 0 => Nat.le_refl _
  | k + 1 => Nat.le_trans (cn_le i k) (Nat.le_add_right _ _)
theorem cn_i {f : Nat → Bool} : ∀ i, cn f i ≤ i
  | 0 => Nat.le_refl _
  | i + 1 => by
    have := cn_i (f := f) i
    show cn f i + (if f i = true then 1 else 0) ≤ i + 1
    split <;> omega
theorem pw_le {x y a b : Nat} (hx : x ≤ 100) (hy : y ≤ 100) (h : a + b ≤ 8) : x ^ a * y ^ b ≤ 10000000000000000 ∧ 100 ^ (a + b) ≤ 10000000000000000 := by
  have h1 : x ^ a * y ^ b ≤ 100 ^ a * 100 ^ b := Nat.mul_le_mul (Nat.pow_le_pow_left hx a) (Nat.pow_le_pow_left hy b)
  have h2 : (100 : Nat) ^ (a + b) ≤ 100 ^ 8 := Nat.pow_le_pow_right (by omega) h
  rw [← Nat.pow_add] at h1
  have h3 : (100 : Nat) ^ 8 = 10000000000000000 := by decide
  omega
section OPS
variable {L : Nat} {xs : Nat → Int32} {d : Nat} {SI : (Nat → Nat → Int32) → (Nat → Nat → Int64) → Prop}
theorem v_power {h : xm_H} {b n : Nat} (hn : n < 1048576) : xm_V (xm_X0 L xs) xm_P (d + 8) 143 [.long (lN b), .int (nI n)] h (some (.long (lN (b ^ n)))) h := by
  have loop : ∀ k i, k + i = n → xm_E (xm_X0 L xs) xm_P (d + 7) co_X10_power 4 [some (.long (lN b)), none, some (.int (nI n)), some (.long (lN (b ^ i))), none, some (.int (nI i))] [] h (some (.long (lN (b ^ n)))) h := by
    intro k
    induction k with
    | zero =>
      intro i hk
      have hic : i = n := by omega
      subst hic
      exact s_X10_power_4_0 (d := d) (nI_le (by omega) (by omega))
    | succ k ih =>
      intro i hk
      refine s_X10_power_4_1 (d := d) (nI_ge (by omega) (by omega)) ?_
      rw [lN_mul, ← Nat.pow_succ, nI_1]
      exact ih (i + 1) (by omega)
  exact v_X10_power (d := d + 7) (s_X10_power_0_0 (d := d) (loop n 0 (by omega)))
theorem op_chance (a w : Int32) : xm_opl (xm_X0 L xs) (d + 20) (Rel SI) 141 302 [.int a, .int w] := by
  intro h hr
  obtain ⟨t, ht, hR, hw, hli, hwk⟩ := hr.opn
  have n0 : ¬ (1 : Int32) = 0 := by decide
  by_cases hp1 : nb w 0 1
  · have m1 := (x_isPart w).1 hp1
    have m2 := (in_0_1 w).1 hp1
    obtain ⟨B, hB, e6, e19, -, hcs⟩ := calls_of hw hli
    obtain ⟨sa, sb, hsa, hsb, ea, eb, e7, e8⟩ := slips_of hw hli
    obtain ⟨r, hr3, VX, VM, hz⟩ := ask_of (L := L) (xs := xs) (d := d + 9) (a := a) (f := 1) (bx := h.1 t 6) (B := B) hr ht hR hw hli.1 e6 (by omega) (Or.inr ⟨rfl, e19⟩)
    have VM' : xm_V (xm_X0 L xs) xm_P (d + 19) 252 [.ref 82, .int a, .int (F_X11_in w.toInt64 (0 : Int64) (1 : Int64)), .int 1] h (some (.int r)) h := by
      rw [m2]
      exact VM h ⟨rfl, rfl⟩ rfl rfl
    by_cases h0 : r = 0
    · subst h0
      obtain ⟨hn, s, m, s4, rfl, hm, e3, e99, hnu⟩ := hz rfl
      have ec : (nI s).toNatClampNeg = s := nI_clamp (by omega)
      let P : Nat → Bool := fun i => decide ((F_X11_her h t (nI (nuN h s i))).toNatClampNeg ≤ 1)
      let Q : Nat → Bool := fun i => decide ((F_X11_his h t (nI (nuN h s i))).toNatClampNeg ≤ 1)
      have hN : ∀ i, i < m → nuN h s i < B ∧ h.2.1 (54 + 2 * s) i = lN (nuN h s i) ∧ h.2.1 101 (60 * s + i) = lN (nuN h s i) ∧ ∃ p q, p < 4 ∧ q < 4 ∧ F_X0_herAct h t (nI (nuN h s i)) = nI p ∧ F_X0_hisAct h t (nI (nuN h s i)) = nI q ∧ F_X11_her h t (nI (nuN h s i)) = nI p ∧ F_X11_his h t (nI (nuN h s i)) = nI q ∧ P i = decide (p ≤ 1) ∧ Q i = decide (q ≤ 1) := fun i hi => by
        obtain ⟨n, n1, n2, n3⟩ := hnu i hi
        have e := nuN_of (h := h) (s := s) (i := i) (by omega) n2
        obtain ⟨p, q, hp, hq, b1, b2, b3, b4⟩ := hcs n n1
        refine ⟨by rw [e]; exact n1, by rw [e]; exact n2, by rw [e]; exact n3, p, q, hp, hq, by rw [e]; exact b1, by rw [e]; exact b2, by rw [e]; exact b3, by rw [e]; exact b4, ?_, ?_⟩
        · show decide ((F_X11_her h t (nI (nuN h s i))).toNatClampNeg ≤ 1) = decide (p ≤ 1)
          rw [e, b3, nI_clamp (by omega)]
        · show decide ((F_X11_his h t (nI (nuN h s i))).toNatClampNeg ≤ 1) = decide (q ≤ 1)
          rw [e, b4, nI_clamp (by omega)]
      let R : Int64 := if cn P m + cn Q m ≤ 8 then prt ((100 - sa) ^ cn P m * (100 - sb) ^ cn Q m) (100 ^ (cn P m + cn Q m)) w else -1
      have hcm1 := cn_i (f := P) m
      have hcm2 := cn_i (f := Q) m
      have lpX : ∀ k i (o6 : Option Value), k + i = m → xm_E (xm_X0 L xs) xm_P (d + 18) co_X10_chanceOf 6 [some (.ref 0), some (.ref (53 + 2 * s)), some (.int w), some (.int (nI (cn P i))), some (.int (nI (cn Q i))), some (.int (nI i)), o6] [] h (some (.long R)) h := by
        intro k
        induction k with
        | zero =>
          intro i o6 hk
          have hic : i = m := by omega
          subst hic
          have cl : h.1 (53 + 2 * s) 3 ≤ nI i := by rw [e3]; exact nI_le (by omega) (by omega)
          by_cases h8 : cn P i + cn Q i ≤ 8
          · have hpw := pw_le (x := 100 - sa) (y := 100 - sb) (by omega) (by omega) h8
            have hR' : R = prt ((100 - sa) ^ cn P i * (100 - sb) ^ cn Q i) (100 ^ (cn P i + cn Q i)) w := if_pos h8
            rw [hR']
            have hpos : 0 < 100 ^ (cn P i + cn Q i) := Nat.pow_pos (by omega)
            have K1 := v_power (L := L) (xs := xs) (d := d + 10) (h := h) (b := 100 - sa) (n := cn P i) (by omega)
            have K2 := v_power (L := L) (xs := xs) (d := d + 10) (h := h) (b := 100 - sb) (n := cn Q i) (by omega)
            have K3 := v_power (L := L) (xs := xs) (d := d + 10) (h := h) (b := 100) (n := cn P i + cn Q i) (by omega)
            have K4 := v_partX (L := L) (xs := xs) (d := d + 9) (h := h) (a := (100 - sa) ^ cn P i * (100 - sb) ^ cn Q i) (b := 100 ^ (cn P i + cn Q i)) (w := w) hpos (by omega) (by omega)
            refine s_X10_chanceOf_6_0 (d := d + 11) (t := t) (r2 := lN ((100 - sa) ^ cn P i)) (r5 := lN ((100 - sb) ^ cn Q i)) (r6 := lN (100 ^ (cn P i + cn Q i))) (h2 := h) (h5 := h) (h6 := h) hR ht (rw_sh s4) cl (by rw [nI_add]; exact nI_le (b := 8) h8 (by omega)) (by rw [e7, i100 hsa, nI_l (by omega)]; exact K1) hR (by rw [e8, i100 hsb, nI_l (by omega)]; exact K2) (by rw [nI_add, show (100 : Int64) = lN 100 from rfl]; exact K3) (by rw [lN_mul]; exact K4)
          · have hR' : R = -1 := if_neg h8
            rw [hR']
            exact s_X10_chanceOf_6_1 (d := d + 11) (rw_sh s4) cl (by rw [nI_add]; exact nI_ge (a := 8) (by omega) (by omega))
        | succ k ih =>
          intro i o6 hk
          have cl : ¬ h.1 (53 + 2 * s) 3 ≤ nI i := by rw [e3]; exact nI_ge (by omega) (by omega)
          obtain ⟨nB, en, -, p, q, hp, hq, b1, b2, b3, b4, eP, eQ⟩ := hN i (by omega)
          have V := v_at (L := L) (xs := xs) (d := d + 10) hR s4 hm (show i < m by omega) e3
          rw [en] at V
          have E := ih (i + 1) (some (.int (nI (nuN h s i)))) (by omega)
          have u1 : cn P (i + 1) = cn P i + (if P i = true then 1 else 0) := rfl
          have u2 : cn Q (i + 1) = cn Q i + (if Q i = true then 1 else 0) := rfl
          rw [u1, u2, eP, eQ] at E
          have c1 := (csl_tab p hp).1
          have c2 := (csl_tab q hq).1
          by_cases k1 : p ≤ 1
          · rw [if_pos (decide_eq_true k1)] at E
            by_cases k2 : q ≤ 1
            · rw [if_pos (decide_eq_true k2)] at E
              refine s_X10_chanceOf_6_5 (d := d + 11) ht (rw_sh s4) cl V hR (by rw [lN_i, b1]; exact fun z => c1.mp z k1) (by rw [lN_i, b2]; exact fun z => c2.mp z k2) ?_
              rw [lN_i, nI_1, nI_1, nI_1]
              exact E
            · rw [if_neg (by rw [decide_eq_true_eq]; exact k2)] at E
              refine s_X10_chanceOf_6_4 (d := d + 11) ht (rw_sh s4) cl V hR (by rw [lN_i, b1]; exact fun z => c1.mp z k1) (by rw [lN_i, b2]; exact c2.mpr k2) ?_
              rw [lN_i, nI_1, nI_1, Int32.add_zero]
              exact E
          · rw [if_neg (by rw [decide_eq_true_eq]; exact k1)] at E
            by_cases k2 : q ≤ 1
            · rw [if_pos (decide_eq_true k2)] at E
              refine s_X10_chanceOf_6_3 (d := d + 11) ht (rw_sh s4) cl V hR (by rw [lN_i, b1]; exact c1.mpr k1) (by rw [lN_i, b2]; exact fun z => c2.mp z k2) ?_
              rw [lN_i, nI_1, nI_1, Int32.add_zero]
              exact E
            · rw [if_neg (by rw [decide_eq_true_eq]; exact k2)] at E
              refine s_X10_chanceOf_6_2 (d := d + 11) ht (rw_sh s4) cl V hR (by rw [lN_i, b1]; exact c1.mpr k1) (by rw [lN_i, b2]; exact c2.mpr k2) ?_
              rw [lN_i, nI_1, Int32.add_zero, Int32.add_zero]
              exact E
      have lpM : ∀ k i (o10 o11 o12 : Option Value), k + i = m → cn P i + cn Q i ≤ 8 → xm_E (xm_X0 L xs) xm_P (d + 19) co_X11_chance 23 [some (.ref 82), some (.int (nI s)), some (.int w), some (.int 0), some (.long (lN ((100 - sa) ^ cn P i * (100 - sb) ^ cn Q i))), none, some (.long (lN (100 ^ (cn P i + cn Q i)))), none, some (.int (nI (cn P i + cn Q i))), some (.int (nI i)), o10, o11, o12] [] h (some (.long R)) h := by
        intro k
        induction k with
        | zero =>
          intro i o10 o11 o12 hk h8
          have hic : i = m := by omega
          subst hic
          have hpw := pw_le (x := 100 - sa) (y := 100 - sb) (by omega) (by omega) h8
          have hR' : R = prt ((100 - sa) ^ cn P i * (100 - sb) ^ cn Q i) (100 ^ (cn P i + cn Q i)) w := if_pos h8
          rw [hR']
          have hpos : 0 < 100 ^ (cn P i + cn Q i) := Nat.pow_pos (by omega)
          exact s_X11_chance_23_0 (d := d + 12) hR ht (g_sl s4) (by rw [ec, e99]; exact nI_le (by omega) (by omega)) (v_partM (d := d + 10) hpos (by omega) (by omega))
        | succ k ih =>
          intro i o10 o11 o12 hk h8
          obtain ⟨nB, -, en, p, q, hp, hq, b1, b2, b3, b4, eP, eQ⟩ := hN i (by omega)
          have u1 : cn P (i + 1) = cn P i + (if P i = true then 1 else 0) := rfl
          have u2 : cn Q (i + 1) = cn Q i + (if Q i = true then 1 else 0) := rfl
          have l1 := cn_le (f := P) (i + 1) k
          have l2 := cn_le (f := Q) (i + 1) k
          rw [show i + 1 + k = m by omega] at l1 l2
          have c1 := (csl_tab p hp).2
          have c2 := (csl_tab q hq).2
          have eN : (F_X11_numberAt h t (nI s) (nI i)).toInt32 = nI (nuN h s i) := by
            unfold F_X11_numberAt
            rw [ix_60, nI_clamp (by omega), en, lN_i]
          have one : ¬ nI 1 = (0 : Int32) := by decide
          have second : ∀ j (o : Option Value), cn P (i + 1) = j → j + cn Q i ≤ 8 → xm_E (xm_X0 L xs) xm_P (d + 19) co_X11_chance 40 [some (.ref 82), some (.int (nI s)), some (.int w), some (.int 0), some (.long (lN ((100 - sa) ^ j * (100 - sb) ^ cn Q i))), none, some (.long (lN (100 ^ (j + cn Q i)))), none, some (.int (nI (j + cn Q i))), some (.int (nI i)), some (.int (nI (nuN h s i))), some (.int (nI 1)), o] [] h (some (.long R)) h := by
            intro j o hj hj8
            by_cases k2 : q ≤ 1
            · have hq1 : cn Q (i + 1) = cn Q i + 1 := by rw [u2, eQ, if_pos (decide_eq_true k2)]
              have sl : ¬ F_X11_slips (F_X11_his h t (nI (nuN h s i))) = 0 := by rw [b4]; exact fun z => c2.mp z k2
              by_cases h88 : j + cn Q i + 1 ≤ 8
              · refine s_X11_chance_40_5 (d := d + 12) hR ht (by decide) one (g_his (by omega)) sl (by rw [nI_1]; exact nI_le (b := 8) h88 (by omega)) (fun _ => by decide) ?_
                refine s_X11_chance_40_0 (d := d + 12) (by decide) ?_
                rw [b4, rgt_m (w := 1) hq (by omega) hsb eb, show rgt q sb = 100 - sb from if_pos k2, nI_l (by omega), lN_mul, show (100 : Int64) = lN 100 from rfl, lN_mul, nI_1, nI_1]
                have E := ih (i + 1) (some (.int (nI (nuN h s i)))) (some (.int (nI 1 + 1))) (some (.int (nI q))) (by omega) (by omega)
                rw [hj, hq1] at E
                rw [Nat.mul_assoc, ← Nat.pow_succ, ← Nat.pow_succ]
                exact E
              · have hR' : R = -1 := if_neg (by omega)
                rw [hR']
                exact s_X11_chance_40_6 (d := d + 12) hR ht (by decide) one (g_his (by omega)) sl (by rw [nI_1]; exact nI_ge (a := 8) (by omega) (by omega))
            · have hq1 : cn Q (i + 1) = cn Q i := by rw [u2, eQ, if_neg (by rw [decide_eq_true_eq]; exact k2)]; rfl
              refine s_X11_chance_40_4 (d := d + 12) hR ht (by decide) one (g_his (by omega)) (by rw [b4]; exact c2.mpr k2) ?_
              refine s_X11_chance_40_0 (d := d + 12) (by decide) ?_
              rw [nI_1]
              have E := ih (i + 1) (some (.int (nI (nuN h s i)))) (some (.int (nI 1 + 1))) (some (.int (F_X11_his h t (nI (nuN h s i))))) (by omega) (by omega)
              rw [hj, hq1] at E
              exact E
          refine s_X11_chance_23_2 (d := d + 12) hR ht (g_sl s4) (by rw [ec, e99]; exact nI_ge (by omega) (by omega)) (nI_nlt (a := 8) h8 (by omega)) (g_60 s4 (by omega)) ?_
          rw [eN]
          by_cases k1 : p ≤ 1
          · have hp1' : cn P (i + 1) = cn P i + 1 := by rw [u1, eP, if_pos (decide_eq_true k1)]
            have sl : ¬ F_X11_slips (F_X11_her h t (nI (nuN h s i))) = 0 := by rw [b3]; exact fun z => c1.mp z k1
            by_cases h88 : cn P i + cn Q i + 1 ≤ 8
            · refine s_X11_chance_40_2 (d := d + 12) hR ht (by decide) rfl (g_her (by omega)) sl (by rw [nI_1]; exact nI_le (b := 8) h88 (by omega)) (fun _ => by decide) ?_
              have E := second (cn P i + 1) (some (.int (F_X11_her h t (nI (nuN h s i))))) hp1' (by omega)
              rw [show (0 : Int32) = nI 0 from rfl, b3, rgt_m (w := 0) hp (by omega) hsa ea, show rgt p sa = 100 - sa from if_pos k1, nI_l (by omega), lN_mul, show (100 : Int64) = lN 100 from rfl, lN_mul, nI_1, nI_1]
              rw [b3, Nat.pow_succ, show cn P i + 1 + cn Q i = cn P i + cn Q i + 1 by omega, Nat.pow_succ, Nat.mul_right_comm] at E
              exact E
            · have hR' : R = -1 := if_neg (by omega)
              rw [hR']
              exact s_X11_chance_40_3 (d := d + 12) hR ht (by decide) rfl (g_her (by omega)) sl (by rw [nI_1]; exact nI_ge (a := 8) (by omega) (by omega))
          · have hp1' : cn P (i + 1) = cn P i := by rw [u1, eP, if_neg (by rw [decide_eq_true_eq]; exact k1)]; rfl
            refine s_X11_chance_40_1 (d := d + 12) hR ht (by decide) rfl (g_her (by omega)) (by rw [b3]; exact c1.mpr k1) ?_
            exact second (cn P i) (some (.int (F_X11_her h t (nI (nuN h s i))))) hp1' h8
      have W1 := v_X10_chance (d := d + 19) (s_X10_chance_0_1 (L := L) (xs := xs) (d := d + 12) (l2 := w) hR ht (by rw [m1]; exact n0) VX rfl hR (g_sl s4) (rw_ref hR s4) (v_X10_chanceOf (d := d + 18) (s_X10_chanceOf_0_0 (d := d + 11) (lpX m 0 none (by omega)))))
      have E0 := lpM m 0 none none none (by omega) (by show 0 + 0 ≤ 8; omega)
      have W2 := v_X11_chance (d := d + 19) (s_X11_chance_0_0 (L := L) (xs := xs) (d := d + 12) VM' (by decide) E0)
      exact ⟨_, _, _, W1, W2, hr⟩
    · have hneg : ¬ (0 : Int32) ≤ r := by
        rcases hr3 with z | z | z
        · exact absurd z h0
        · rw [z]; decide
        · rw [z]; decide
      exact ⟨_, _, _, v_X10_chance (d := d + 19) (s_X10_chance_0_2 (d := d + 12) hR ht (by rw [m1]; exact n0) VX h0), v_X11_chance (d := d + 19) (s_X11_chance_0_1 (d := d + 12) VM' hneg), hr⟩
  · have A0 : xm_V (xm_X0 L xs) xm_P (d + 19) 252 [.ref 82, .int a, .int (F_X11_in w.toInt64 (0 : Int64) (1 : Int64)), .int 1] h (some (.int (-2))) h := by
      rw [(in_0_1 w).2 hp1]
      exact ask0 (d := d + 11) ht hR hw hli.1
    exact ⟨_, _, _, v_X10_chance (d := d + 19) (s_X10_chance_0_0 (d := d + 12) ((x_isPart w).2 hp1)), v_X11_chance (d := d + 19) (s_X11_chance_0_1 (d := d + 12) A0 (by decide)), hr⟩
end OPS
