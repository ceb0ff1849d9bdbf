/-! The press: how many; packs. -/
theorem cntL_lt {vs : Nat → Int64} {y z : Int} : ∀ k, cntL vs y k < cntL vs z k → ∃ i, i < k ∧ y < (vs i).toInt ∧ (vs i).toInt ≤ z
  | 0, h => absurd h (Nat.lt_irrefl 0)
  | k + 1, h => by
    have h' : cntL vs y k + (if (vs k).toInt ≤ y then 1 else 0) < cntL vs z k + (if (vs k).toInt ≤ z then 1 else 0) := h
    by_cases h1 : y < (vs k).toInt ∧ (vs k).toInt ≤ z
    · exact ⟨k, by omega, h1.1, h1.2⟩
    · have h2 : cntL vs y k < cntL vs z k := by
        by_cases h3 : (vs k).toInt ≤ y
        · rw [if_pos h3] at h'
          split at h' <;> omega
        · rw [if_neg h3, if_neg (by omega)] at h'
          exact h'
      obtain ⟨i, hi, h4⟩ := cntL_lt k h2
      exact ⟨i, by omega, h4⟩
theorem cntL_in {vs : Nat → Int64} {y z : Int} (hyz : y ≤ z) : ∀ k i, i < k → y < (vs i).toInt → (vs i).toInt ≤ z → cntL vs y k < cntL vs z k
  | 0, i, h, _, _ => absurd h (by omega)
  | k + 1, i, h, h1, h2 => by
    show cntL vs y k + (if (vs k).toInt ≤ y then 1 else 0) < cntL vs z k + (if (vs k).toInt ≤ z then 1 else 0)
    by_cases hik : i = k
    · subst hik
      rw [if_neg (by omega), if_pos h2]
      have := cntL_mono (vs := vs) hyz i
      omega
    · have := cntL_in hyz k i (by omega) h1 h2
      by_cases h3 : (vs k).toInt ≤ y
      · rw [if_pos h3, if_pos (by omega)]
        omega
      · rw [if_neg h3]
        omega
/-- what is left in the press -/
def lfP (S : Nat → Int64) (pr : Nat) : Nat → Int
  | 0 => pr
  | i + 1 => lfP S pr i - (S i).toInt
section OPS
variable {L : Nat} {xs : Nat → Int32} {d : Nat} {SI : (Nat → Nat → Int32) → (Nat → Nat → Int64) → Prop}
/-- one more put in order -/
theorem srt_in {S T vs : Nat → Int64} {i p : Nat} (hp : p ≤ i) (hs : srt S vs i) (h1 : p = 0 ∨ (S (p - 1)).toInt ≤ (vs i).toInt) (h2 : p = i ∨ (vs i).toInt < (S p).toInt) (t1 : ∀ j, j < p → T j = S j) (t2 : T p = vs i) (t3 : ∀ j, p < j → j ≤ i → T j = S (j - 1)) : srt T vs (i + 1) := by
  have hc : cntL vs (vs i).toInt i = p := by
    have a1 : p ≤ cntL vs (vs i).toInt i := by
      rcases h1 with h1 | h1
      · omega
      · by_cases hp0 : p = 0
        · omega
        · have := (hs (p - 1) (by omega) _).mp h1
          omega
    have a2 : cntL vs (vs i).toInt i ≤ p := by
      rcases h2 with h2 | h2
      · rw [h2]
        exact cntL_le i
      · by_cases hpi : p = i
        · rw [hpi]
          exact cntL_le i
        · by_cases z : cntL vs (vs i).toInt i ≤ p
          · exact z
          · have := (hs p (by omega) (vs i).toInt).mpr (by omega)
            omega
    omega
  intro j hj z
  have eS : cntL vs z (i + 1) = cntL vs z i + (if (vs i).toInt ≤ z then 1 else 0) := rfl
  rw [eS]
  by_cases hx : (vs i).toInt ≤ z
  · rw [if_pos hx]
    have hm := cntL_mono (vs := vs) hx i
    rw [hc] at hm
    by_cases hjp : j < p
    · rw [t1 j hjp, hs j (by omega) z]
      constructor
      · intro h; omega
      · intro _; omega
    · by_cases hjp2 : j = p
      · rw [hjp2, t2]
        constructor
        · intro _; omega
        · intro _; exact hx
      · rw [t3 j (by omega) (by omega), hs (j - 1) (by omega) z]
        constructor
        · intro h; omega
        · intro h; omega
  · rw [if_neg hx]
    have hm := cntL_mono (vs := vs) (show z ≤ (vs i).toInt by omega) i
    rw [hc] at hm
    by_cases hjp : j < p
    · rw [t1 j hjp]
      exact hs j (by omega) z
    · by_cases hjp2 : j = p
      · rw [hjp2, t2]
        constructor
        · intro h; exact absurd h hx
        · intro h; omega
      · rw [t3 j (by omega) (by omega), hs (j - 1) (by omega) z]
        constructor
        · intro h; omega
        · intro h; omega
theorem v_sort {h : xm_H} {t s m : Nat} (hR : h.2.2 = xm_R0 t) (ht : t = 5 ∨ t = 13) (s4 : s < 4) (hm : m ≤ 60) (e3 : h.1 (53 + 2 * s) 3 = nI m) : ∃ g, xm_V (xm_X0 L xs) xm_P (d + 9) 151 [.ref 79, .ref (53 + 2 * s)] h none g ∧ g.1 = h.1 ∧ g.2.2 = h.2.2 ∧ (∀ q, q ≠ 81 → g.2.1 q = h.2.1 q) ∧ srt (g.2.1 81) (h.2.1 (54 + 2 * s)) m := by
  have inner : ∀ i, i < m → (∀ (z : xm_H) (o3 : Option Value), z.1 = h.1 → z.2.2 = h.2.2 → (∀ q, q ≠ 81 → z.2.1 q = h.2.1 q) → srt (z.2.1 81) (h.2.1 (54 + 2 * s)) (i + 1) → ∃ g, xm_E (xm_X0 L xs) xm_P (d + 8) co_X1_sort 2 [some (.ref 79), some (.ref (53 + 2 * s)), some (.int (nI (i + 1))), o3] [] z none g ∧ g.1 = h.1 ∧ g.2.2 = h.2.2 ∧ (∀ q, q ≠ 81 → g.2.1 q = h.2.1 q) ∧ srt (g.2.1 81) (h.2.1 (54 + 2 * s)) m) → ∀ (S : Nat → Int64), srt S (h.2.1 (54 + 2 * s)) i → ∀ p (z : xm_H), p ≤ i → z.1 = h.1 → z.2.2 = h.2.2 → (∀ q, q ≠ 81 → z.2.1 q = h.2.1 q) → (∀ j, j < p → z.2.1 81 j = S j) → (∀ j, p < j → j ≤ i → z.2.1 81 j = S (j - 1)) → (p = i ∨ (h.2.1 (54 + 2 * s) i).toInt < (S p).toInt) → ∃ g, xm_E (xm_X0 L xs) xm_P (d + 8) co_X1_sort 11 [some (.ref 79), some (.ref (53 + 2 * s)), some (.int (nI i)), some (.int (nI p))] [] z none g ∧ g.1 = h.1 ∧ g.2.2 = h.2.2 ∧ (∀ q, q ≠ 81 → g.2.1 q = h.2.1 q) ∧ srt (g.2.1 81) (h.2.1 (54 + 2 * s)) m := by
    intro i hi K S hS p
    induction p with
    | zero =>
      intro z hp a1 a2 a3 a4 a5 a6
      have zR : z.2.2 = xm_R0 t := by rw [a2]; exact hR
      have V := v_at (L := L) (xs := xs) (d := d) zR s4 hm hi (by rw [a1]; exact e3)
      rw [a3 (54 + 2 * s) (by omega)] at V
      obtain ⟨g, b0, b⟩ := K (xm_sl z 81 0 (h.2.1 (54 + 2 * s) i)) (some (.int (nI 0))) a1 a2 (fun q hq => by rw [xm_ln hq]; exact a3 q hq) (srt_in (p := 0) (by omega) hS (Or.inl rfl) a6 (fun j hj => absurd hj (by omega)) xm_la (fun j h1 h2 => by rw [xm_lj (by omega)]; exact a5 j h1 h2))
      refine ⟨g, ?_, b⟩
      refine s_X1_sort_11_0 (d := d + 1) zR ht (by decide) V (rw_sh s4) (nI_in (by omega) (by omega)) ?_
      rw [nI_1]
      exact b0
    | succ p ih =>
      intro z hp a1 a2 a3 a4 a5 a6
      have zR : z.2.2 = xm_R0 t := by rw [a2]; exact hR
      have V := v_at (L := L) (xs := xs) (d := d) zR s4 hm hi (by rw [a1]; exact e3)
      rw [a3 (54 + 2 * s) (by omega)] at V
      have e1 : nI (p + 1) - (1 : Int32) = nI p := nI_pred p
      have ecl : (nI (p + 1) - (1 : Int32)).toNatClampNeg = p := by rw [e1, nI_clamp (by omega)]
      by_cases hc : (S p).toInt ≤ (h.2.1 (54 + 2 * s) i).toInt
      · obtain ⟨g, b0, b⟩ := K (xm_sl z 81 (p + 1) (h.2.1 (54 + 2 * s) i)) (some (.int (nI (p + 1)))) a1 a2 (fun q hq => by rw [xm_ln hq]; exact a3 q hq) (srt_in (p := p + 1) hp hS (Or.inr hc) a6 (fun j hj => by rw [xm_lj (by omega)]; exact a4 j hj) xm_la (fun j h1 h2 => by rw [xm_lj (by omega)]; exact a5 j h1 h2))
        refine ⟨g, ?_, b⟩
        refine s_X1_sort_11_1 (d := d + 1) zR ht (nI_nle (by omega) (by omega)) (by rw [e1]; exact nI_in (by omega) (by omega)) V (rw_sh s4) (by rw [ecl, a4 p (by omega), lg_cmp_le, Int64.le_iff_toInt_le]; exact hc) zR V (nI_in (by omega) (by omega)) ?_
        rw [nI_clamp (by omega), nI_1]
        exact b0
      · obtain ⟨g, b0, b⟩ := ih (xm_sl z 81 (p + 1) (S p)) (by omega) a1 a2 (fun q hq => by rw [xm_ln hq]; exact a3 q hq) (fun j hj => by rw [xm_lj (by omega)]; exact a4 j (by omega)) (fun j h1 h2 => by
          by_cases hjp : j = p + 1
          · subst hjp
            rw [xm_la, Nat.add_sub_cancel]
          · rw [xm_lj hjp]
            exact a5 j (by omega) h2) (Or.inr (by omega))
        refine ⟨g, ?_, b⟩
        refine s_X1_sort_11_2 (d := d + 1) zR ht (nI_nle (by omega) (by omega)) (by rw [e1]; exact nI_in (by omega) (by omega)) V (rw_sh s4) (by rw [ecl, a4 p (by omega), lg_cmp_le, Int64.le_iff_toInt_le]; exact hc) zR (nI_in (by omega) (by omega)) ?_
        rw [ecl, nI_clamp (by omega), a4 p (by omega), pm_p (p + 1) (by omega), pm_s]
        exact b0
  have outer : ∀ k i (z : xm_H) (o3 : Option Value), k + i = m → z.1 = h.1 → z.2.2 = h.2.2 → (∀ q, q ≠ 81 → z.2.1 q = h.2.1 q) → srt (z.2.1 81) (h.2.1 (54 + 2 * s)) i → ∃ g, xm_E (xm_X0 L xs) xm_P (d + 8) co_X1_sort 2 [some (.ref 79), some (.ref (53 + 2 * s)), some (.int (nI i)), o3] [] z none g ∧ g.1 = h.1 ∧ g.2.2 = h.2.2 ∧ (∀ q, q ≠ 81 → g.2.1 q = h.2.1 q) ∧ srt (g.2.1 81) (h.2.1 (54 + 2 * s)) m := by
    intro k
    induction k with
    | zero =>
      intro i z o3 hk a1 a2 a3 a4
      have hic : i = m := by omega
      subst hic
      exact ⟨z, s_X1_sort_2_0 (d := d + 1) (rw_sh s4) (by rw [a1, e3]; exact nI_le (by omega) (by omega)), a1, a2, a3, a4⟩
    | succ k ih =>
      intro i z o3 hk a1 a2 a3 a4
      obtain ⟨g, b0, b⟩ := inner i (by omega) (fun z' o c1 c2 c3 c4 => ih (i + 1) z' o (by omega) c1 c2 c3 c4) (z.2.1 81) a4 i z (Nat.le_refl _) a1 a2 a3 (fun _ _ => rfl) (fun j h1 h2 => absurd h1 (by omega)) (Or.inl rfl)
      exact ⟨g, s_X1_sort_2_2 (d := d + 1) (rw_sh s4) (by rw [a1, e3]; exact nI_ge (by omega) (by omega)) (nI_ge (b := 60) (by omega) (by omega)) b0, b⟩
  obtain ⟨g, b0, b⟩ := outer m 0 h none (by omega) rfl rfl (fun _ _ => rfl) (fun i hi => absurd hi (by omega))
  exact ⟨g, v_X1_sort (d := d + 8) (s_X1_sort_0_0 (d := d + 1) b0), b⟩
theorem v_mostX {h : xm_H} {t s m pr : Nat} (hR : h.2.2 = xm_R0 t) (ht : t = 5 ∨ t = 13) (s4 : s < 4) (hm : m ≤ 60) (e3 : h.1 (53 + 2 * s) 3 = nI m) (hpr : pr ≤ 999) (hv : ∀ i, i < m → 0 ≤ (h.2.1 (54 + 2 * s) i).toInt) : ∃ (S : Nat → Int64) (c : Nat) (g : xm_H), xm_V (xm_X0 L xs) xm_P (d + 10) 150 [.ref 79, .ref (53 + 2 * s), .int (nI pr)] h (some (.int (nI c))) g ∧ g.1 = h.1 ∧ g.2.2 = h.2.2 ∧ (∀ q, q ≠ 81 → g.2.1 q = h.2.1 q) ∧ srt S (h.2.1 (54 + 2 * s)) m ∧ c ≤ m ∧ (∀ i, i < c → (S i).toInt ≤ lfP S pr i) ∧ (c = m ∨ lfP S pr c < (S c).toInt) ∧ (∀ i, i ≤ c → 0 ≤ lfP S pr i ∧ lfP S pr i ≤ pr) := by
  obtain ⟨g, VS, c1, c2, c3, hS⟩ := v_sort (L := L) (xs := xs) (d := d) hR ht s4 hm e3
  have gR : g.2.2 = xm_R0 t := by rw [c2]; exact hR
  have hS0 : ∀ i, i < m → 0 ≤ (g.2.1 81 i).toInt := by
    intro i hi
    by_cases z : 0 ≤ (g.2.1 81 i).toInt
    · exact z
    · have h1 := (hS i hi (-1)).mp (by omega)
      have h2 : ∀ k, k ≤ m → cntL (h.2.1 (54 + 2 * s)) (-1) k = 0 := by
        intro k
        induction k with
        | zero => intro _; rfl
        | succ k ih =>
          intro hk
          show cntL (h.2.1 (54 + 2 * s)) (-1) k + (if (h.2.1 (54 + 2 * s) k).toInt ≤ -1 then 1 else 0) = 0
          have := hv k (by omega)
          rw [ih (by omega), if_neg (by omega)]
      rw [h2 m (Nat.le_refl _)] at h1
      omega
  have loop : ∀ k i (lf : Int64), k + i = m → lf.toInt = lfP (g.2.1 81) pr i → 0 ≤ lfP (g.2.1 81) pr i → lfP (g.2.1 81) pr i ≤ pr → ∃ c, i ≤ c ∧ c ≤ m ∧ xm_E (xm_X0 L xs) xm_P (d + 9) co_X1_mostOf 10 [some (.ref 79), some (.ref (53 + 2 * s)), some (.int (nI pr)), some (.long lf), none, some (.int (nI i)), some (.int (nI i))] [] g (some (.int (nI c))) g ∧ (∀ j, i ≤ j → j < c → (g.2.1 81 j).toInt ≤ lfP (g.2.1 81) pr j) ∧ (c = m ∨ lfP (g.2.1 81) pr c < (g.2.1 81 c).toInt) ∧ (∀ j, i ≤ j → j ≤ c → 0 ≤ lfP (g.2.1 81) pr j ∧ lfP (g.2.1 81) pr j ≤ pr) := by
    intro k
    induction k with
    | zero =>
      intro i lf hk e h0 h1
      have hic : i = m := by omega
      subst hic
      exact ⟨i, Nat.le_refl _, Nat.le_refl _, s_X1_mostOf_10_0 (d := d + 2) (rw_sh s4) (by rw [c1, e3]; exact nI_le (by omega) (by omega)), fun j h1 h2 => absurd h1 (by omega), Or.inl rfl, fun j h1' h2' => by rw [show j = i by omega]; exact ⟨h0, h1⟩⟩
    | succ k ih =>
      intro i lf hk e h0 h1
      have cl : ¬ g.1 (53 + 2 * s) 3 ≤ nI i := by rw [c1, e3]; exact nI_ge (by omega) (by omega)
      have ci : (nI i).toNatClampNeg = i := nI_clamp (by omega)
      have hp := hS0 i (by omega)
      by_cases hc : (g.2.1 81 i).toInt ≤ lfP (g.2.1 81) pr i
      · have el : (lf - g.2.1 81 i).toInt = lfP (g.2.1 81) pr (i + 1) := by
          show (lf - g.2.1 81 i).toInt = lfP (g.2.1 81) pr i - (g.2.1 81 i).toInt
          rw [Int64.toInt_sub, e]
          exact Int.bmod_eq_of_le (by omega) (by omega)
        obtain ⟨c, q1, q2', q3, q4, q5, q6⟩ := ih (i + 1) (lf - g.2.1 81 i) (by omega) el (by show 0 ≤ lfP (g.2.1 81) pr i - (g.2.1 81 i).toInt; omega) (by show lfP (g.2.1 81) pr i - (g.2.1 81 i).toInt ≤ pr; omega)
        refine ⟨c, by omega, q2', ?_, fun j h1' h2' => ?_, q5, fun j h1' h2' => ?_⟩
        · refine s_X1_mostOf_10_3 (d := d + 2) gR ht (rw_sh s4) cl (nI_ge (b := 60) (by omega) (by omega)) (nI_in (by omega) (by omega)) ?_ ?_
          · rw [ci, lg_cmp_gt, Int64.lt_iff_toInt_lt, e]
            omega
          · rw [ci, nI_1]
            exact q3
        · by_cases hji : j = i
          · subst hji
            exact hc
          · exact q4 j (by omega) h2'
        · by_cases hji : j = i
          · subst hji
            exact ⟨h0, h1⟩
          · exact q6 j (by omega) h2'
      · refine ⟨i, Nat.le_refl _, by omega, ?_, fun j h1' h2' => absurd h1' (by omega), Or.inr (by omega), fun j h1' h2' => by rw [show j = i by omega]; exact ⟨h0, h1⟩⟩
        refine s_X1_mostOf_10_2 (d := d + 2) gR ht (rw_sh s4) cl (nI_ge (b := 60) (by omega) (by omega)) (nI_in (by omega) (by omega)) ?_
        rw [ci, lg_cmp_gt, Int64.lt_iff_toInt_lt, e]
        omega
  obtain ⟨c, q1, q2', q3, q4, q5, q6⟩ := loop m 0 (nI pr).toInt64 (by omega) (by rw [nI_l (by omega), lj_toInt (by omega)]; rfl) (by show (0 : Int) ≤ pr; omega) (by show (pr : Int) ≤ pr; omega)
  exact ⟨g.2.1 81, c, g, v_X1_mostOf (d := d + 9) (s_X1_mostOf_0_0 (d := d + 2) VS q3), c1, c2, c3, hS, q2', fun i hi => q4 i (by omega) hi, q5, fun i hi => q6 i (by omega) hi⟩
end OPS
