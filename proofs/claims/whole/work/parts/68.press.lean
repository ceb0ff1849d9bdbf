/-! The press: the reference's height; how many. -/
/-- how many of the first k are at most z -/
def cntL (vs : Nat → Int64) (z : Int) : Nat → Nat
  | 0 => 0
  | k + 1 => cntL vs z k + (if (vs k).toInt ≤ z then 1 else 0)
theorem cntL_le {vs : Nat → Int64} {z : Int} : ∀ k, cntL vs z k ≤ k
  | 0 => Nat.le_refl _
  | k + 1 => by
    have := cntL_le (vs := vs) (z := z) k
    show cntL vs z k + (if (vs k).toInt ≤ z then 1 else 0) ≤ k + 1
    split <;> omega
theorem cntL_mono {vs : Nat → Int64} {y z : Int} (h : y ≤ z) : ∀ k, cntL vs y k ≤ cntL vs z k
  | 0 => Nat.le_refl _
  | k + 1 => by
    have := cntL_mono (vs := vs) h k
    show cntL vs y k + (if (vs k).toInt ≤ y then 1 else 0) ≤ cntL vs z k + (if (vs k).toInt ≤ z then 1 else 0)
    by_cases h1 : (vs k).toInt ≤ y
    · rw [if_pos h1, if_pos (Int.le_trans h1 h)]
      omega
    · rw [if_neg h1]
      omega
/-- s is vs in order -/
def srt (s vs : Nat → Int64) (k : Nat) : Prop := ∀ i, i < k → ∀ z : Int, (s i).toInt ≤ z ↔ i < cntL vs z k
section OPS
variable {L : Nat} {xs : Nat → Int32} {d : Nat} {SI : (Nat → Nat → Int32) → (Nat → Nat → Int64) → Prop}
theorem v_highM {h : xm_H} {t s m pr : Nat} {vs : Nat → Int64} (hR : h.2.2 = xm_R0 t) (ht : t = 5 ∨ t = 13) (s4 : s < 4) (hm : m ≤ 60) (e99 : h.1 99 s = nI m) (hpr : pr ≤ 999) (epr : h.1 83 18 = nI pr) (hvs : ∀ i, i < m → h.2.1 101 (60 * s + i) = vs i) (hv : ∀ i, i < m → 0 ≤ (vs i).toInt) : ∃ g, xm_V (xm_X0 L xs) xm_P (d + 10) 307 [.ref 82, .int (nI s)] h (some (.int (nI (hiN (hgt vs pr m) (pr + 1))))) g ∧ g.2 = h.2 ∧ (∀ q, q ≠ 96 → g.1 q = h.1 q) := by
  have ec : (nI s).toNatClampNeg = s := nI_clamp (by omega)
  have l4 : ∀ k (z : xm_H) (o3 o5 : Option Value), k ≤ pr → z.2 = h.2 → (∀ q, q ≠ 96 → z.1 q = h.1 q) → (∀ x, x ≤ pr → z.1 96 x = bI (hgt vs pr m x)) → hiN (hgt vs pr m) (pr + 1) = hiN (hgt vs pr m) (k + 1) → xm_E (xm_X0 L xs) xm_P (d + 9) co_X11_highest 80 [some (.ref 82), some (.int (nI s)), some (.int (nI k)), o3, none, o5] [] z (some (.int (nI (hiN (hgt vs pr m) (pr + 1))))) z := by
    intro k
    induction k with
    | zero =>
      intro z o3 o5 hk a1 a2 a3 a4
      have zR : z.2.2 = xm_R0 t := by rw [a1]; exact hR
      have e0 : hiN (hgt vs pr m) (0 + 1) = 0 := by
        show (if hgt vs pr m 0 = true then 0 else hiN (hgt vs pr m) 0) = 0
        split <;> rfl
      rw [a4, e0]
      exact s_X11_highest_80_1 (d := d + 2) zR ht (nI_in (by omega) (by omega)) (by rw [nI_clamp (by omega), a3 0 (by omega), hgt_0]; decide)
    | succ k ih =>
      intro z o3 o5 hk a1 a2 a3 a4
      have zR : z.2.2 = xm_R0 t := by rw [a1]; exact hR
      have eh : hiN (hgt vs pr m) (k + 1 + 1) = if hgt vs pr m (k + 1) = true then k + 1 else hiN (hgt vs pr m) (k + 1) := rfl
      cases hA : hgt vs pr m (k + 1) with
      | true =>
        rw [eh, hA, if_pos rfl] at a4
        rw [a4]
        exact s_X11_highest_80_1 (d := d + 2) zR ht (nI_in (by omega) (by omega)) (by rw [nI_clamp (by omega), a3 (k + 1) (by omega), hA]; decide)
      | false =>
        rw [eh, hA, if_neg (by decide)] at a4
        refine s_X11_highest_80_0 (d := d + 2) zR ht (nI_in (by omega) (by omega)) (by rw [nI_clamp (by omega), a3 (k + 1) (by omega), hA]; rfl) ?_
        rw [pm_p (k + 1) (by omega), pm_s]
        exact ih z o3 o5 (by omega) a1 a2 a3 a4
  have l3 : ∀ i n, i < m → n ≤ pr → vs i = lN n → (∀ z : xm_H, z.2 = h.2 → (∀ q, q ≠ 96 → z.1 q = h.1 q) → (∀ x, x ≤ pr → z.1 96 x = bI (hgt vs pr (i + 1) x)) → ∃ g, xm_E (xm_X0 L xs) xm_P (d + 9) co_X11_highest 20 [some (.ref 82), some (.int (nI s)), some (.int (nI (i + 1))), some (.long (lN n)), none, some (.int (pm n))] [] z (some (.int (nI (hiN (hgt vs pr m) (pr + 1))))) g ∧ g.2 = h.2 ∧ (∀ q, q ≠ 96 → g.1 q = h.1 q)) → ∀ k (z : xm_H), k ≤ pr + 1 → n ≤ k → z.2 = h.2 → (∀ q, q ≠ 96 → z.1 q = h.1 q) → (∀ x, x ≤ pr → z.1 96 x = bI (if k ≤ x then lay1 n (hgt vs pr i) x else hgt vs pr i x)) → ∃ g, xm_E (xm_X0 L xs) xm_P (d + 9) co_X11_highest 45 [some (.ref 82), some (.int (nI s)), some (.int (nI i)), some (.long (lN n)), none, some (.int (pm k))] [] z (some (.int (nI (hiN (hgt vs pr m) (pr + 1))))) g ∧ g.2 = h.2 ∧ (∀ q, q ≠ 96 → g.1 q = h.1 q) := by
    intro i n hi hn en K k
    have eh : hgt vs pr (i + 1) = fun x => if (vs i).toInt ≤ pr then lay1 (vs i).toInt.toNat (hgt vs pr i) x else hgt vs pr i x := rfl
    have en' : (vs i).toInt = n := by rw [en, lj_toInt (by omega)]
    have ex : ∀ x, hgt vs pr (i + 1) x = lay1 n (hgt vs pr i) x := fun x => by
      rw [eh]
      simp only [en', if_pos (show (n : Int) ≤ pr by omega), Int.toNat_natCast]
    have fin : ∀ (k : Nat) (z : xm_H), k = n → z.2 = h.2 → (∀ q, q ≠ 96 → z.1 q = h.1 q) → (∀ x, x ≤ pr → z.1 96 x = bI (if k ≤ x then lay1 n (hgt vs pr i) x else hgt vs pr i x)) → ∃ g, xm_E (xm_X0 L xs) xm_P (d + 9) co_X11_highest 45 [some (.ref 82), some (.int (nI s)), some (.int (nI i)), some (.long (lN n)), none, some (.int (pm k))] [] z (some (.int (nI (hiN (hgt vs pr m) (pr + 1))))) g ∧ g.2 = h.2 ∧ (∀ q, q ≠ 96 → g.1 q = h.1 q) := by
      intro k z hkn a1 a2 a3
      subst hkn
      obtain ⟨g, b0, b'⟩ := K z a1 a2 (fun x hx => by
        rw [a3 x hx, ex x]
        by_cases hx2 : k ≤ x
        · rw [if_pos hx2]
        · rw [if_neg hx2]
          unfold lay1
          rw [decide_eq_false hx2, Bool.false_and, Bool.or_false])
      refine ⟨g, s_X11_highest_45_0 (d := d + 2) ?_ (by rw [nI_1]; exact b0), b'⟩
      rw [lg_cmp_lt, Int64.lt_iff_toInt_lt, pm_toInt (by omega), lj_toInt (by omega)]
      omega
    induction k with
    | zero =>
      intro z hk hnk a1 a2 a3
      exact fin 0 z (by omega) a1 a2 a3
    | succ k ih =>
      intro z hk hnk a1 a2 a3
      by_cases hkn : k + 1 = n
      · exact fin (k + 1) z hkn a1 a2 a3
      · have zR : z.2.2 = xm_R0 t := by rw [a1]; exact hR
        obtain ⟨g, b0, b'⟩ := ih (xm_si z 96 k (bI (lay1 n (hgt vs pr i) k))) (by omega) (by omega) a1 (fun q hq => by rw [xm_rn hq]; exact a2 q hq) (fun x hx => by
          by_cases hxk : x = k
          · subst hxk
            rw [xm_ra, if_pos (Nat.le_refl _)]
          · rw [xm_rk hxk, a3 x hx]
            by_cases hx2 : k + 1 ≤ x
            · rw [if_pos hx2, if_pos (by omega)]
            · rw [if_neg hx2, if_neg (by omega)])
        refine ⟨g, ?_, b'⟩
        have c0 : ¬ lg_cmp (pm (k + 1)).toInt64 (lN n) < (0 : Int32) := by
          rw [lg_cmp_lt, Int64.lt_iff_toInt_lt, pm_toInt (by omega), lj_toInt (by omega)]
          omega
        rw [pm_s] at c0 ⊢
        have ed : ((nI k).toInt64 - lN n).toInt32 = nI (k - n) := by rw [nI_l (by omega), lN_sub (by omega), lN_i]
        have z1 : z.1 96 (nI k).toNatClampNeg = bI (hgt vs pr i k) := by rw [nI_clamp (by omega), a3 k (by omega), if_neg (by omega)]
        have z2 : z.1 96 (((nI k).toInt64 - lN n).toInt32).toNatClampNeg = bI (hgt vs pr i (k - n)) := by rw [ed, nI_clamp (by omega), a3 (k - n) (by omega), if_neg (by omega)]
        have gi : ¬ (((nI k).toInt64 - lN n).toInt32 < 0 ∨ 1000 ≤ (((nI k).toInt64 - lN n).toInt32).toNatClampNeg) := by rw [ed]; exact nI_in (by omega) (by omega)
        have el : lay1 n (hgt vs pr i) k = (hgt vs pr i k || hgt vs pr i (k - n)) := by
          unfold lay1
          rw [decide_eq_true (by omega), Bool.true_and]
        rw [el] at b0
        cases hA : hgt vs pr i k with
        | true =>
          rw [hA, Bool.true_or] at b0
          refine s_X11_highest_45_3 (d := d + 2) zR ht c0 (nI_in (by omega) (by omega)) (by rw [z1, hA]; decide) ?_
          rw [nI_clamp (by omega), pm_p k (by omega)]
          exact b0
        | false =>
          cases hB : hgt vs pr i (k - n) with
          | true =>
            rw [hA, hB, Bool.or_true] at b0
            refine s_X11_highest_45_2 (d := d + 2) zR ht c0 (nI_in (by omega) (by omega)) (by rw [z1, hA]; rfl) gi (by rw [z2, hB]; decide) ?_
            rw [nI_clamp (by omega), pm_p k (by omega)]
            exact b0
          | false =>
            rw [hA, hB, Bool.or_false] at b0
            refine s_X11_highest_45_1 (d := d + 2) zR ht c0 (nI_in (by omega) (by omega)) (by rw [z1, hA]; rfl) gi (by rw [z2, hB]; rfl) ?_
            rw [nI_clamp (by omega), pm_p k (by omega)]
            exact b0
  have l2 : ∀ k i (z : xm_H) (o3 o5 : Option Value), k + i = m → z.2 = h.2 → (∀ q, q ≠ 96 → z.1 q = h.1 q) → (∀ x, x ≤ pr → z.1 96 x = bI (hgt vs pr i x)) → ∃ g, xm_E (xm_X0 L xs) xm_P (d + 9) co_X11_highest 20 [some (.ref 82), some (.int (nI s)), some (.int (nI i)), o3, none, o5] [] z (some (.int (nI (hiN (hgt vs pr m) (pr + 1))))) g ∧ g.2 = h.2 ∧ (∀ q, q ≠ 96 → g.1 q = h.1 q) := by
    intro k
    induction k with
    | zero =>
      intro i z o3 o5 hk a1 a2 a3
      have hic : i = m := by omega
      subst hic
      have zR : z.2.2 = xm_R0 t := by rw [a1]; exact hR
      refine ⟨z, s_X11_highest_20_0 (d := d + 2) zR ht (g_sl s4) (by rw [ec, a2 99 (by decide), e99]; exact nI_le (by omega) (by omega)) ?_, a1, a2⟩
      rw [a2 83 (by decide), epr]
      exact l4 pr z o3 o5 (Nat.le_refl _) a1 a2 a3 rfl
    | succ k ih =>
      intro i z o3 o5 hk a1 a2 a3
      have zR : z.2.2 = xm_R0 t := by rw [a1]; exact hR
      have cl : ¬ z.1 99 (nI s).toNatClampNeg ≤ nI i := by rw [ec, a2 99 (by decide), e99]; exact nI_ge (by omega) (by omega)
      have eN : F_X11_numberAt z t (nI s) (nI i) = vs i := by
        unfold F_X11_numberAt
        rw [ix_60, nI_clamp (by omega), a1, hvs i (by omega)]
      have zp : z.1 83 18 = nI pr := by rw [a2 83 (by decide)]; exact epr
      have cmp : lg_cmp (vs i) (nI pr).toInt64 ≤ (0 : Int32) ↔ (vs i).toInt ≤ (pr : Int) := by
        rw [lg_cmp_le, Int64.le_iff_toInt_le, nI_l (by omega), lj_toInt (by omega)]
      by_cases hc : (vs i).toInt ≤ pr
      · obtain ⟨n, hn, en⟩ := ln_of (v := vs i) (B := pr + 1) (by omega) (hv i (by omega)) (by omega)
        obtain ⟨g, b0, b'⟩ := l3 i n (by omega) (by omega) en (fun z' c1 c2 c3 => ih (i + 1) z' _ _ (by omega) c1 c2 c3) (pr + 1) z (by omega) (by omega) a1 a2 (fun x hx => by rw [a3 x hx, if_neg (by omega)])
        refine ⟨g, s_X11_highest_20_1 (d := d + 2) zR ht (g_sl s4) cl (g_60 s4 (by omega)) (by rw [eN, zp]; exact cmp.mpr hc) ?_, b'⟩
        rw [eN, en, zp, ← pm_s]
        exact b0
      · have eh : hgt vs pr (i + 1) = fun x => if (vs i).toInt ≤ pr then lay1 (vs i).toInt.toNat (hgt vs pr i) x else hgt vs pr i x := rfl
        obtain ⟨g, b0, b'⟩ := ih (i + 1) z (some (.long (vs i))) o5 (by omega) a1 a2 (fun x hx => by rw [a3 x hx, eh]; simp only [if_neg hc])
        refine ⟨g, s_X11_highest_20_2 (d := d + 2) zR ht (g_sl s4) cl (g_60 s4 (by omega)) (by rw [eN, zp]; exact fun q => hc (cmp.mp q)) ?_, b'⟩
        rw [eN, nI_1]
        exact b0
  have l1 : ∀ k i (z : xm_H), k + i = 1000 → z.2 = h.2 → (∀ q, q ≠ 96 → z.1 q = h.1 q) → (∀ x, x < i → z.1 96 x = bI (decide (x = 0))) → ∃ g, xm_E (xm_X0 L xs) xm_P (d + 9) co_X11_highest 2 [some (.ref 82), some (.int (nI s)), some (.int (nI i)), none, none, none] [] z (some (.int (nI (hiN (hgt vs pr m) (pr + 1))))) g ∧ g.2 = h.2 ∧ (∀ q, q ≠ 96 → g.1 q = h.1 q) := by
    intro k
    induction k with
    | zero =>
      intro i z hk a1 a2 a3
      have hic : i = 1000 := by omega
      subst hic
      have zR : z.2.2 = xm_R0 t := by rw [a1]; exact hR
      obtain ⟨g, b0, b'⟩ := l2 m 0 z none none (by omega) a1 a2 (fun x hx => a3 x (by omega))
      exact ⟨g, s_X11_highest_2_0 (d := d + 2) zR ht (by decide) b0, b'⟩
    | succ k ih =>
      intro i z hk a1 a2 a3
      have zR : z.2.2 = xm_R0 t := by rw [a1]; exact hR
      obtain ⟨g, b0, b'⟩ := ih (i + 1) (xm_si z 96 i (bI (decide (i = 0)))) (by omega) a1 (fun q hq => by rw [xm_rn hq]; exact a2 q hq) (fun x hx => by
        by_cases hxi : x = i
        · subst hxi
          exact xm_ra
        · rw [xm_rk hxi]
          exact a3 x (by omega))
      refine ⟨g, ?_, b'⟩
      have c0 : ¬ Int32.ofNat 1000 ≤ nI i := nI_ge (b := 1000) (by omega) (by omega)
      by_cases hi0 : i = 0
      · subst hi0
        exact s_X11_highest_2_1 (d := d + 2) zR ht c0 rfl (nI_in (by omega) (by omega)) b0
      · refine s_X11_highest_2_2 (d := d + 2) zR ht c0 (nI_ne0 (by omega) (by omega)) (nI_in (by omega) (by omega)) ?_
        rw [nI_clamp (by omega), nI_1]
        rw [decide_eq_false hi0] at b0
        exact b0
  obtain ⟨g, b0, b'⟩ := l1 1000 0 h (by omega) rfl (fun _ _ => rfl) (fun x hx => absurd hx (by omega))
  exact ⟨g, v_X11_highest (d := d + 9) (s_X11_highest_0_0 (d := d + 2) b0), b'⟩
end OPS
