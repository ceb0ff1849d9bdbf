/-! The press: how high. -/
def bI (b : Bool) : Int32 := if b = true then 1 else 0
theorem bI_or (a b : Bool) : bI a ||| bI b = bI (a || b) := by cases a <;> cases b <;> decide
theorem bI_nar (a : Bool) : vp_nar .boolean (bI a) = bI a := by cases a <;> decide
theorem bI_0 (a : Bool) : bI a = 0 ↔ a = false := by cases a <;> decide
/-- one more laid: b thick -/
def lay1 (b : Nat) (A : Nat → Bool) (x : Nat) : Bool := A x || (decide (b ≤ x) && A (x - b))
/-- what heights there are, of the first i -/
def hgt (vs : Nat → Int64) (pr : Nat) : Nat → Nat → Bool
  | 0, x => decide (x = 0)
  | i + 1, x => if (vs i).toInt ≤ pr then lay1 (vs i).toInt.toNat (hgt vs pr i) x else hgt vs pr i x
theorem hgt_0 (vs : Nat → Int64) (pr : Nat) : ∀ i, hgt vs pr i 0 = true
  | 0 => rfl
  | i + 1 => by
    show (if (vs i).toInt ≤ pr then lay1 (vs i).toInt.toNat (hgt vs pr i) 0 else hgt vs pr i 0) = true
    split
    · unfold lay1
      rw [hgt_0 vs pr i]
      rfl
    · exact hgt_0 vs pr i
def hiN (A : Nat → Bool) : Nat → Nat
  | 0 => 0
  | k + 1 => if A k = true then k else hiN A k
/-- one below, none below 0 -/
def pm (k : Nat) : Int32 := if k = 0 then -1 else nI (k - 1)
theorem pm_s (k : Nat) : pm (k + 1) = nI k := by
  unfold pm
  rw [if_neg (by omega)]
  rfl
theorem pm_p (k : Nat) (hk : k < 1048576) : nI k + (-1 : Int32) = pm k := by
  unfold pm
  by_cases h : k = 0
  · subst h
    rfl
  · rw [if_neg h]
    have : k = (k - 1) + 1 := by omega
    rw [this, nI_succ]
    show nI (k - 1) + 1 + (-1) = nI (k - 1 + 1 - 1)
    rw [Int32.add_assoc, show (1 : Int32) + (-1) = 0 from rfl, Int32.add_zero]
    rfl
theorem pm_toInt {k : Nat} (hk : k < 1048576) : (pm k).toInt64.toInt = (k : Int) - 1 := by
  unfold pm
  rw [Int32.toInt_toInt64]
  by_cases h : k = 0
  · rw [if_pos h, h]
    rfl
  · rw [if_neg h, nI_toInt (by omega)]
    omega
section OPS
variable {L : Nat} {xs : Nat → Int32} {d : Nat} {SI : (Nat → Nat → Int32) → (Nat → Nat → Int64) → Prop}
/-- the class lays one -/
theorem v_lay {h : xm_H} {t pr b : Nat} {A : Nat → Bool} (hR : h.2.2 = xm_R0 t) (ht : t = 5 ∨ t = 13) (hpr : pr ≤ 999) (hb : b ≤ pr) (hA : ∀ x, x ≤ pr → h.1 80 x = bI (A x)) : ∃ g, xm_V (xm_X0 L xs) xm_P (d + 8) 149 [.ref 79, .int (nI b), .int (nI pr)] h none g ∧ g.2 = h.2 ∧ (∀ q, q ≠ 80 → g.1 q = h.1 q) ∧ (∀ x, x ≤ pr → g.1 80 x = bI (lay1 b A x)) := by
  by_cases hb0 : b = 0
  · subst hb0
    refine ⟨h, v_X1_lay (d := d + 7) (s_X1_lay_0_0 (d := d) (s_X1_lay_2_1 (d := d) (nI_pos (by omega)) (by decide))), rfl, fun _ _ => rfl, fun x hx => ?_⟩
    rw [hA x hx]
    unfold lay1
    rw [Nat.sub_zero]
    cases A x <;> rfl
  · have loop : ∀ k (z : xm_H), k ≤ pr + 1 → b ≤ k → z.2 = h.2 → (∀ q, q ≠ 80 → z.1 q = h.1 q) → (∀ x, x ≤ pr → z.1 80 x = bI (if k ≤ x then lay1 b A x else A x)) → ∃ g, xm_E (xm_X0 L xs) xm_P (d + 7) co_X1_lay 2 [some (.ref 79), some (.int (nI b)), some (.int (nI pr)), some (.int (nI (k - 1)))] [] z none g ∧ g.2 = h.2 ∧ (∀ q, q ≠ 80 → g.1 q = h.1 q) ∧ (∀ x, x ≤ pr → g.1 80 x = bI (lay1 b A x)) := by
      intro k
      induction k with
      | zero => intro z hk hbk; omega
      | succ k ih =>
        intro z hk hbk a1 a2 a3
        rw [Nat.add_sub_cancel]
        have zR : z.2.2 = xm_R0 t := by rw [a1]; exact hR
        by_cases hkb : k < b
        · refine ⟨z, s_X1_lay_2_0 (d := d) (nI_lt hkb (by omega)), a1, a2, fun x hx => ?_⟩
          rw [a3 x hx]
          by_cases hx2 : k + 1 ≤ x
          · rw [if_pos hx2]
          · rw [if_neg hx2]
            unfold lay1
            rw [decide_eq_false (by omega), Bool.false_and, Bool.or_false]
        · obtain ⟨g, b0, b'⟩ := ih (xm_si z 80 k (bI (lay1 b A k))) (by omega) (by omega) a1 (fun q hq => by rw [xm_rn hq]; exact a2 q hq) (fun x hx => by
            by_cases hxk : x = k
            · subst hxk
              rw [xm_ra, if_pos (Nat.le_refl _)]
            · rw [xm_rk hxk, a3 x hx]
              by_cases hx2 : k + 1 ≤ x
              · rw [if_pos hx2, if_pos (by omega)]
              · rw [if_neg hx2, if_neg (by omega)])
          refine ⟨g, ?_, b'⟩
          refine s_X1_lay_2_2 (d := d) zR ht (nI_nlt (by omega) (by omega)) (nI_nle (by omega) (by omega)) (nI_in (by omega) (by omega)) (by rw [nm_sub (by omega)]; exact nI_in (by omega) (by omega)) ?_
          rw [nm_sub (by omega), nI_clamp (by omega), nI_clamp (by omega), a3 k (by omega), a3 (k - b) (by omega), if_neg (by omega), if_neg (by omega), bI_or, bI_nar, pm_p k (by omega)]
          have e : (A k || A (k - b)) = lay1 b A k := by
            unfold lay1
            rw [decide_eq_true (by omega), Bool.true_and]
          rw [e]
          have hk0 : 0 < k := by omega
          have ep : pm k = nI (k - 1) := by
            unfold pm
            rw [if_neg (by omega)]
          rw [ep]
          exact b0
    obtain ⟨g, b0, b'⟩ := loop (pr + 1) h (by omega) (by omega) rfl (fun _ _ => rfl) (fun x hx => by rw [hA x hx, if_neg (by omega)])
    rw [Nat.add_sub_cancel] at b0
    exact ⟨g, v_X1_lay (d := d + 7) (s_X1_lay_0_0 (d := d) b0), b'⟩
theorem v_highX {h : xm_H} {t s m pr : Nat} (hR : h.2.2 = xm_R0 t) (ht : t = 5 ∨ t = 13) (s4 : s < 4) (hm : m ≤ 60) (e3 : h.1 (53 + 2 * s) 3 = nI m) (hpr : pr ≤ 999) (hv : ∀ i, i < m → 0 ≤ (h.2.1 (54 + 2 * s) i).toInt) : ∃ g, xm_V (xm_X0 L xs) xm_P (d + 10) 148 [.ref 79, .ref (53 + 2 * s), .int (nI pr)] h (some (.int (nI (hiN (hgt (h.2.1 (54 + 2 * s)) pr m) (pr + 1))))) g ∧ g.2 = h.2 ∧ (∀ q, q ≠ 80 → g.1 q = h.1 q) := by
  have l3 : ∀ k i (z : xm_H), k + i = pr + 1 → z.2 = h.2 → (∀ q, q ≠ 80 → z.1 q = h.1 q) → (∀ x, x ≤ pr → z.1 80 x = bI (hgt (h.2.1 (54 + 2 * s)) pr m x)) → xm_E (xm_X0 L xs) xm_P (d + 9) co_X1_highest 46 [some (.ref 79), some (.ref (53 + 2 * s)), some (.int (nI pr)), some (.int (nI pr)), some (.int (nI (hiN (hgt (h.2.1 (54 + 2 * s)) pr m) i))), some (.int (nI i))] [] z (some (.int (nI (hiN (hgt (h.2.1 (54 + 2 * s)) pr m) (pr + 1))))) z := by
    intro k
    induction k with
    | zero =>
      intro i z hk a1 a2 a3
      have hic : i = pr + 1 := by omega
      subst hic
      exact s_X1_highest_46_0 (d := d + 2) (nI_lt (by omega) (by omega))
    | succ k ih =>
      intro i z hk a1 a2 a3
      have zR : z.2.2 = xm_R0 t := by rw [a1]; exact hR
      have E := ih (i + 1) z (by omega) a1 a2 a3
      have eh : hiN (hgt (h.2.1 (54 + 2 * s)) pr m) (i + 1) = if hgt (h.2.1 (54 + 2 * s)) pr m i = true then i else hiN (hgt (h.2.1 (54 + 2 * s)) pr m) i := rfl
      cases hA : hgt (h.2.1 (54 + 2 * s)) pr m i with
      | false =>
        rw [eh, hA, if_neg (by decide)] at E
        refine s_X1_highest_46_1 (d := d + 2) zR ht (nI_nlt (by omega) (by omega)) (nI_in (by omega) (by omega)) (by rw [nI_clamp (by omega), a3 i (by omega), hA]; rfl) ?_
        rw [nI_1]
        exact E
      | true =>
        rw [eh, hA, if_pos rfl] at E
        refine s_X1_highest_46_2 (d := d + 2) zR ht (nI_nlt (by omega) (by omega)) (nI_in (by omega) (by omega)) (by rw [nI_clamp (by omega), a3 i (by omega), hA]; decide) ?_
        rw [nI_1]
        exact E
  have l2 : ∀ k i (z : xm_H), k + i = m → z.2 = h.2 → (∀ q, q ≠ 80 → z.1 q = h.1 q) → (∀ x, x ≤ pr → z.1 80 x = bI (hgt (h.2.1 (54 + 2 * s)) pr i x)) → ∃ g, xm_E (xm_X0 L xs) xm_P (d + 9) co_X1_highest 22 [some (.ref 79), some (.ref (53 + 2 * s)), some (.int (nI pr)), some (.int (nI pr)), some (.int (nI i)), none] [] z (some (.int (nI (hiN (hgt (h.2.1 (54 + 2 * s)) pr m) (pr + 1))))) g ∧ g.2 = h.2 ∧ (∀ q, q ≠ 80 → g.1 q = h.1 q) := by
    intro k
    induction k with
    | zero =>
      intro i z hk a1 a2 a3
      have hic : i = m := by omega
      subst hic
      exact ⟨z, s_X1_highest_22_0 (d := d + 2) (rw_sh s4) (by rw [a2 _ (by omega), e3]; exact nI_le (by omega) (by omega)) (l3 (pr + 1) 0 z (by omega) a1 a2 a3), a1, a2⟩
    | succ k ih =>
      intro i z hk a1 a2 a3
      have zR : z.2.2 = xm_R0 t := by rw [a1]; exact hR
      have ze3 : z.1 (53 + 2 * s) 3 = nI m := by rw [a2 _ (by omega)]; exact e3
      have cl : ¬ z.1 (53 + 2 * s) 3 ≤ nI i := by rw [ze3]; exact nI_ge (by omega) (by omega)
      have V := v_at (L := L) (xs := xs) (d := d + 1) zR s4 hm (show i < m by omega) ze3
      rw [a1] at V
      have eh : hgt (h.2.1 (54 + 2 * s)) pr (i + 1) = fun x => if (h.2.1 (54 + 2 * s) i).toInt ≤ pr then lay1 (h.2.1 (54 + 2 * s) i).toInt.toNat (hgt (h.2.1 (54 + 2 * s)) pr i) x else hgt (h.2.1 (54 + 2 * s)) pr i x := rfl
      have cmp : (0 : Int32) < lg_cmp (h.2.1 (54 + 2 * s) i) (nI pr).toInt64 ↔ (pr : Int) < (h.2.1 (54 + 2 * s) i).toInt := by
        rw [lg_cmp_gt, Int64.lt_iff_toInt_lt, nI_l (by omega), lj_toInt (by omega)]
      by_cases hc : (h.2.1 (54 + 2 * s) i).toInt ≤ pr
      · obtain ⟨n, hn, en⟩ := ln_of (v := h.2.1 (54 + 2 * s) i) (B := pr + 1) (by omega) (hv i (by omega)) (by omega)
        have hnn : (h.2.1 (54 + 2 * s) i).toInt.toNat = n := by rw [en, lj_toInt (by omega)]; omega
        obtain ⟨g1, VL, c1, c2, c3⟩ := v_lay (L := L) (xs := xs) (d := d + 1) (h := z) (t := t) (pr := pr) (b := n) (A := hgt (h.2.1 (54 + 2 * s)) pr i) zR ht hpr (by omega) a3
        obtain ⟨g, b0, b'⟩ := ih (i + 1) g1 (by omega) (by rw [c1, a1]) (fun q hq => by rw [c2 q hq, a2 q hq]) (fun x hx => by rw [c3 x hx, eh]; simp only [if_pos hc, hnn])
        refine ⟨g, ?_, b'⟩
        rw [en] at V cmp
        refine s_X1_highest_22_2 (d := d + 2) (rw_sh s4) cl V (fun q => ?_) V (by rw [lN_i]; exact VL) (by rw [nI_1]; exact b0)
        have := cmp.mp q
        rw [en] at hc
        omega
      · obtain ⟨g, b0, b'⟩ := ih (i + 1) z (by omega) a1 a2 (fun x hx => by rw [a3 x hx, eh]; simp only [if_neg hc])
        exact ⟨g, s_X1_highest_22_1 (d := d + 2) (rw_sh s4) cl V (cmp.mpr (by omega)) (by rw [nI_1]; exact b0), b'⟩
  have l1 : ∀ k i (z : xm_H), k + i = pr + 1 → z.2 = h.2 → (∀ q, q ≠ 80 → z.1 q = h.1 q) → (∀ x, x < i → z.1 80 x = bI (decide (x = 0))) → ∃ g, xm_E (xm_X0 L xs) xm_P (d + 9) co_X1_highest 6 [some (.ref 79), some (.ref (53 + 2 * s)), some (.int (nI pr)), some (.int (nI pr)), some (.int (nI i)), none] [] z (some (.int (nI (hiN (hgt (h.2.1 (54 + 2 * s)) pr m) (pr + 1))))) g ∧ g.2 = h.2 ∧ (∀ q, q ≠ 80 → g.1 q = h.1 q) := by
    intro k
    induction k with
    | zero =>
      intro i z hk a1 a2 a3
      have hic : i = pr + 1 := by omega
      subst hic
      obtain ⟨g, b0, b'⟩ := l2 m 0 z (by omega) a1 a2 (fun x hx => a3 x (by omega))
      exact ⟨g, s_X1_highest_6_0 (d := d + 2) (nI_lt (by omega) (by omega)) b0, b'⟩
    | succ k ih =>
      intro i z hk a1 a2 a3
      have zR : z.2.2 = xm_R0 t := by rw [a1]; exact hR
      obtain ⟨g, b0, b'⟩ := ih (i + 1) (xm_si z 80 i (bI (decide (i = 0)))) (by omega) a1 (fun q hq => by rw [xm_rn hq]; exact a2 q hq) (fun x hx => by
        by_cases hxi : x = i
        · subst hxi
          exact xm_ra
        · rw [xm_rk hxi]
          exact a3 x (by omega))
      refine ⟨g, ?_, b'⟩
      by_cases hi0 : i = 0
      · subst hi0
        exact s_X1_highest_6_1 (d := d + 2) zR ht (nI_nlt (by omega) (by omega)) rfl (nI_in (by omega) (by omega)) b0
      · refine s_X1_highest_6_2 (d := d + 2) zR ht (nI_nlt (by omega) (by omega)) (nI_ne0 (by omega) (by omega)) (nI_in (by omega) (by omega)) ?_
        rw [nI_clamp (by omega), nI_1]
        rw [decide_eq_false hi0] at b0
        exact b0
  obtain ⟨g, b0, b'⟩ := l1 (pr + 1) 0 h (by omega) rfl (fun _ _ => rfl) (fun x hx => absurd hx (by omega))
  refine ⟨g, v_X1_highest (d := d + 9) (s_X1_highest_0_0 (d := d + 2) ?_), b'⟩
  rw [if_neg (show ¬ (999 : Int32) < nI pr from nI_nlt (a := 999) hpr (by omega))]
  exact b0
end OPS
