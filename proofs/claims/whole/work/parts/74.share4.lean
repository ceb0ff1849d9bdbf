/-! Who folds which pile: the reference, and both. -/
/-- the ways come to an end -/
def endS (n K : Nat) : Nat → (Nat → Nat) → Prop
  | 0, _ => False
  | f + 1, g => match nxS n g K with
    | none => True
    | some g' => endS n K f g'
theorem endS_al {n K : Nat} (hn : 0 < n) : ∀ d g f, d ≤ K → (∀ j, K - d ≤ j → g j = 0) → (endS n K (n ^ d + f) g ↔ match nxS n g (K - d) with
    | none => True
    | some g' => endS n K f g')
  | 0, g, f, _, _ => by
    rw [Nat.pow_zero, Nat.add_comm 1 f, Nat.sub_zero]
    exact Iff.rfl
  | d + 1, g, f, hd, hg => by
    have hz : ∀ p j, K - d ≤ j → sg g (K - (d + 1)) p j = 0 := fun p j hj => by rw [sg_n g (by omega)]; exact hg j (by omega)
    have lp : ∀ k p, k + p + 1 = n → (endS n K ((k + 1) * n ^ d + f) (sg g (K - (d + 1)) p) ↔ match nxS n g (K - (d + 1)) with
        | none => True
        | some g' => endS n K f g') := by
      intro k
      induction k with
      | zero =>
        intro p hp
        rw [show (0 + 1) * n ^ d + f = n ^ d + f by rw [Nat.zero_add, Nat.one_mul], endS_al hn d _ f (by omega) (hz p)]
        have e : nxS n (sg g (K - (d + 1)) p) (K - d) = nxS n g (K - (d + 1)) := by
          rw [show K - d = K - (d + 1) + 1 by omega]
          show (if sg g (K - (d + 1)) p (K - (d + 1)) + 1 < n then _ else nxS n (sg (sg g (K - (d + 1)) p) (K - (d + 1)) 0) (K - (d + 1))) = _
          rw [sg_a, if_neg (by omega), sg_sg, sg_id (hg _ (Nat.le_refl _))]
        rw [e]
      | succ k ih =>
        intro p hp
        rw [show (k + 1 + 1) * n ^ d + f = n ^ d + ((k + 1) * n ^ d + f) by rw [Nat.succ_mul]; omega, endS_al hn d _ _ (by omega) (hz p)]
        have e : nxS n (sg g (K - (d + 1)) p) (K - d) = some (sg g (K - (d + 1)) (p + 1)) := by
          rw [show K - d = K - (d + 1) + 1 by omega]
          show (if sg g (K - (d + 1)) p (K - (d + 1)) + 1 < n then some (sg (sg g (K - (d + 1)) p) (K - (d + 1)) (sg g (K - (d + 1)) p (K - (d + 1)) + 1)) else _) = _
          rw [sg_a, if_pos (by omega), sg_sg]
        rw [e]
        exact ih (p + 1) (by omega)
    have := lp (n - 1) 0 (by omega)
    rw [show n - 1 + 1 = n by omega, sg_id (hg _ (Nat.le_refl _)), Nat.mul_comm, ← Nat.pow_succ] at this
    exact this
theorem pm_m1 (K : Nat) (hK : K < 1048576) : nI K - (1 : Int32) = pm K := by
  rw [← pm_p K hK, Int32.sub_eq_add_neg]
section OPS
variable {L : Nat} {xs : Nat → Int32} {d : Nat} {SI : (Nat → Nat → Int32) → (Nat → Nat → Int64) → Prop}
theorem v_next {z : xm_H} {t n K : Nat} {g : Nat → Nat} (hR : z.2.2 = xm_R0 t) (ht : t = 5 ∨ t = 13) (hK : K ≤ 6) (hn : n ≤ 5) (e21 : z.1 83 21 = nI K) (hg : ∀ j, j < 6 → z.1 97 j = nI (g j)) (hgb : ∀ j, j < 6 → g j ≤ 5) : ∃ z', (z'.2 = z.2 ∧ (∀ q, q ≠ 97 → z'.1 q = z.1 q)) ∧ (nxS n g K = none → xm_V (xm_X0 L xs) xm_P (d + 8) 318 [.ref 82, .int (nI n)] z (some (.int 0)) z') ∧ (∀ g', nxS n g K = some g' → xm_V (xm_X0 L xs) xm_P (d + 8) 318 [.ref 82, .int (nI n)] z (some (.int 1)) z' ∧ (∀ j, j < 6 → z'.1 97 j = nI (g' j)) ∧ (∀ j, j < 6 → g' j ≤ 5) ∧ (∀ j, K ≤ j → g' j = g j)) := by
  have loop : ∀ k (y : xm_H) (g : Nat → Nat), k ≤ K → y.2 = z.2 → (∀ q, q ≠ 97 → y.1 q = z.1 q) → (∀ j, j < 6 → y.1 97 j = nI (g j)) → (∀ j, j < 6 → g j ≤ 5) → ∃ z', (z'.2 = z.2 ∧ (∀ q, q ≠ 97 → z'.1 q = z.1 q)) ∧ (nxS n g k = none → xm_E (xm_X0 L xs) xm_P (d + 7) co_X11_nextGiving 7 [some (.ref 82), some (.int (nI n)), some (.int (pm k))] [] y (some (.int 0)) z') ∧ (∀ g', nxS n g k = some g' → xm_E (xm_X0 L xs) xm_P (d + 7) co_X11_nextGiving 7 [some (.ref 82), some (.int (nI n)), some (.int (pm k))] [] y (some (.int 1)) z' ∧ (∀ j, j < 6 → z'.1 97 j = nI (g' j)) ∧ (∀ j, j < 6 → g' j ≤ 5) ∧ (∀ j, k ≤ j → g' j = g j)) := by
    intro k
    induction k with
    | zero =>
      intro y g hk a1 a2 a3 a4
      exact ⟨y, ⟨a1, a2⟩, fun _ => s_X11_nextGiving_7_0 (d := d) (by decide), fun g' h => by cases h⟩
    | succ k ih =>
      intro y g hk a1 a2 a3 a4
      have yR : y.2.2 = xm_R0 t := by rw [a1]; exact hR
      rw [pm_s]
      have ck : (nI k).toNatClampNeg = k := nI_clamp (by omega)
      have hgk := a4 k (by omega)
      have ev : (xm_si y 97 (nI k).toNatClampNeg (y.1 97 (nI k).toNatClampNeg + (1 : Int32))).1 97 (nI k).toNatClampNeg = nI (g k + 1) := by
        rw [xm_ra, ck, a3 k (by omega), nI_1]
      have e0 : nxS n g (k + 1) = if g k + 1 < n then some (sg g k (g k + 1)) else nxS n (sg g k 0) k := rfl
      by_cases hc : g k + 1 < n
      · rw [e0, if_pos hc]
        refine ⟨xm_si y 97 k (nI (g k + 1)), ⟨a1, fun q hq => by rw [xm_rn hq]; exact a2 q hq⟩, fun h => (by cases h), fun g' h => ?_⟩
        cases h
        refine ⟨?_, fun j hj => ?_, fun j hj => ?_, fun j hj => sg_n g (by omega)⟩
        · have E := s_X11_nextGiving_7_2 (L := L) (xs := xs) (d := d) (h := y) (t := t) (l1 := nI n) (l2 := nI k) yR ht (nI_pos (by omega)) (nI_in (by omega) (by omega)) (by rw [ev]; exact nI_ge hc (by omega))
          rw [ck, a3 k (by omega), nI_1] at E
          exact E
        · by_cases hjk : j = k
          · subst hjk
            rw [xm_ra, sg_a]
          · rw [xm_rk hjk, sg_n g hjk]
            exact a3 j hj
        · by_cases hjk : j = k
          · subst hjk
            rw [sg_a]
            omega
          · rw [sg_n g hjk]
            exact a4 j hj
      · rw [e0, if_neg hc]
        obtain ⟨z', b1, b2, b3⟩ := ih (xm_si (xm_si y 97 k (nI (g k + 1))) 97 k 0) (sg g k 0) (by omega) a1 (fun q hq => by rw [xm_rn hq, xm_rn hq]; exact a2 q hq) (fun j hj => by
          by_cases hjk : j = k
          · subst hjk
            rw [xm_ra, sg_a]
            rfl
          · rw [xm_rk hjk, xm_rk hjk, sg_n g hjk]
            exact a3 j hj) (fun j hj => by
          by_cases hjk : j = k
          · subst hjk
            rw [sg_a]
            omega
          · rw [sg_n g hjk]
            exact a4 j hj)
        have st : ∀ (r : Option Value), xm_E (xm_X0 L xs) xm_P (d + 7) co_X11_nextGiving 7 [some (.ref 82), some (.int (nI n)), some (.int (pm k))] [] (xm_si (xm_si y 97 k (nI (g k + 1))) 97 k 0) r z' → xm_E (xm_X0 L xs) xm_P (d + 7) co_X11_nextGiving 7 [some (.ref 82), some (.int (nI n)), some (.int (nI k))] [] y r z' := by
          intro r E
          refine s_X11_nextGiving_7_1 (d := d) yR ht (nI_pos (by omega)) (nI_in (by omega) (by omega)) (by rw [ev]; exact nI_le (by omega) (by omega)) ?_
          rw [ck, a3 k (by omega), nI_1, pm_p k (by omega)]
          exact E
        refine ⟨z', b1, fun h => st _ (b2 h), fun g' h => ?_⟩
        obtain ⟨c1, c2, c3, c4⟩ := b3 g' h
        exact ⟨st _ c1, c2, c3, fun j hj => by rw [c4 j (by omega), sg_n g (by omega)]⟩
  obtain ⟨z', b1, b2, b3⟩ := loop K z g (Nat.le_refl _) rfl (fun _ _ => rfl) hg hgb
  have st : ∀ (r : Option Value), xm_E (xm_X0 L xs) xm_P (d + 7) co_X11_nextGiving 7 [some (.ref 82), some (.int (nI n)), some (.int (pm K))] [] z r z' → xm_V (xm_X0 L xs) xm_P (d + 8) 318 [.ref 82, .int (nI n)] z r z' := by
    intro r E
    refine v_X11_nextGiving (d := d + 7) (s_X11_nextGiving_0_0 (d := d) hR ht ?_)
    rw [e21, pm_m1 K (by omega)]
    exact E
  exact ⟨z', b1, fun h => st _ (b2 h), fun g' h => by obtain ⟨c1, c2⟩ := b3 g' h; exact ⟨st _ c1, c2⟩⟩
theorem v_fridayM {h : xm_H} {t c K n : Nat} {w as bs : Nat → Nat} {ano : Int32} (hR : h.2.2 = xm_R0 t) (ht : t = 5 ∨ t = 13) (hc : c ≤ 4) (hK : K ≤ 6) (e20 : h.1 83 20 = nI c) (e21 : h.1 83 21 = nI K) (hw : ∀ k, w k ≤ 60) (ew : ∀ k, k < K → h.1 83 (44 + k) = nI (w k)) (hab : ∀ p, p < n → as p ≤ 99 ∧ bs p ≤ 999) (hp : ∀ p, p < c → h.1 83 (36 + 2 * p) = nI (as p) ∧ h.1 83 (37 + 2 * p) = nI (bs p)) (hano : (ano = -1 ∧ n = c) ∨ (∃ q, q < c ∧ ano = nI q ∧ n = c + 1 ∧ as c = as q ∧ bs c = bs q)) (hnK : 0 < n ∨ K = 0) : ∃ g, xm_V (xm_X0 L xs) xm_P (d + 13) 317 [.ref 82, .int ano] h (some (.int (nI (alS (fun p => lsN (as p) (bs p)) w n K K (fun _ => 0) (1000000000, fun _ => 0)).1))) g ∧ g.2 = h.2 ∧ (∀ q, q ≠ 97 → q ≠ 98 → g.1 q = h.1 q) ∧ ((alS (fun p => lsN (as p) (bs p)) w n K K (fun _ => 0) (1000000000, fun _ => 0)).1 = 1000000000 ∨ ∀ j, j < K → g.1 98 j = nI ((alS (fun p => lsN (as p) (bs p)) w n K K (fun _ => 0) (1000000000, fun _ => 0)).2 j)) := by
  have hn5 : n ≤ 5 := by
    rcases hano with ⟨-, h1⟩ | ⟨q, -, -, h1, -⟩ <;> omega
  have hTb : ∀ p i, p < n → i ≤ 360 → lsN (as p) (bs p) i < 1000000 := fun p i hpn hi => by
    have := (lsN_lsm (hab p hpn).1 (hab p hpn).2 i (by omega)).2
    omega
  have mxb : ∀ g m, m ≤ n → mxN (fun p => lsN (as p) (bs p)) w g K m < 1000000 := fun g m hm => by
    have : mxN (fun p => lsN (as p) (bs p)) w g K m ≤ 999999 := mxN_le (fun p hpm => by
      have h1 := ldN_le (g := g) (p := p) hw K
      have := hTb p (ldN w g p K) (by omega) (by omega)
      show lsN (as p) (bs p) (ldN w g p K) ≤ 999999
      omega)
    omega
  have body : ∀ (z : xm_H) (g : Nat → Nat) (x1 : Nat) (r : Option Value) (zz : xm_H), z.2 = h.2 → (∀ q, q ≠ 97 → q ≠ 98 → z.1 q = h.1 q) → (∀ j, j < 6 → z.1 97 j = nI (g j)) → (∀ j, j < 6 → g j ≤ 5) → (∀ o6 o7 : Option Value, xm_E (xm_X0 L xs) xm_P (d + 12) co_X11_fridayWith 39 [some (.ref 82), some (.int ano), some (.int (nI n)), some (.int (nI x1)), some (.int (nI (mxN (fun p => lsN (as p) (bs p)) w g K n))), some (.int (nI n)), o6, o7] [] z r zz) → ∀ (o6 o7 : Option Value), xm_E (xm_X0 L xs) xm_P (d + 12) co_X11_fridayWith 39 [some (.ref 82), some (.int ano), some (.int (nI n)), some (.int (nI x1)), some (.int (0 : Int32)), some (.int (0 : Int32)), o6, o7] [] z r zz := by
    intro z g x1 r zz z2 zq zg zb KK o6 o7
    have zR : z.2.2 = xm_R0 t := by rw [z2]; exact hR
    have z83 : z.1 83 = h.1 83 := zq 83 (by decide) (by decide)
    have lpP : ∀ m p (o6 o7 : Option Value), m + p = n → xm_E (xm_X0 L xs) xm_P (d + 12) co_X11_fridayWith 39 [some (.ref 82), some (.int ano), some (.int (nI n)), some (.int (nI x1)), some (.int (nI (mxN (fun p => lsN (as p) (bs p)) w g K p))), some (.int (nI p)), o6, o7] [] z r zz := by
      intro m
      induction m with
      | zero =>
        intro p o6 o7 hm
        have hpn : p = n := by omega
        subst hpn
        exact KK o6 o7
      | succ m ihm =>
        intro p o6 o7 hm
        have hpn : p < n := by omega
        have hmb := mxb g p (by omega)
        have lpK : ∀ kk k, kk + k = K → xm_E (xm_X0 L xs) xm_P (d + 12) co_X11_fridayWith 46 [some (.ref 82), some (.int ano), some (.int (nI n)), some (.int (nI x1)), some (.int (nI (mxN (fun p => lsN (as p) (bs p)) w g K p))), some (.int (nI p)), some (.int (nI (ldN w g p k))), some (.int (nI k))] [] z r zz := by
          intro kk
          induction kk with
          | zero =>
            intro k hk
            have hkK : k = K := by omega
            subst hkK
            have hld := ldN_le (g := g) (p := p) hw k
            have hTp := hTb p (ldN w g p k) hpn (by omega)
            have elast : (if nI (mxN (fun p => lsN (as p) (bs p)) w g k p) < nI (lsN (as p) (bs p) (ldN w g p k)) then nI (lsN (as p) (bs p) (ldN w g p k)) else nI (mxN (fun p => lsN (as p) (bs p)) w g k p)) = nI (mxN (fun p => lsN (as p) (bs p)) w g k (p + 1)) := by
              show _ = nI (max (mxN (fun p => lsN (as p) (bs p)) w g k p) (lsN (as p) (bs p) (ldN w g p k)))
              by_cases hcm : mxN (fun p => lsN (as p) (bs p)) w g k p < lsN (as p) (bs p) (ldN w g p k)
              · rw [if_pos (nI_lt hcm (by omega)), Nat.max_eq_right (Nat.le_of_lt hcm)]
              · rw [if_neg (nI_nlt (by omega) (by omega)), Nat.max_eq_left (by omega)]
            have E := ihm (p + 1) (some (.int (nI (ldN w g p k)))) (some (.int (nI k))) (by omega)
            have cl : z.1 83 21 ≤ nI k := by rw [z83, e21]; exact nI_le (Nat.le_refl _) (by omega)
            rcases hano with ⟨rfl, hnc⟩ | ⟨q, hq, rfl, hnc, eas, ebs⟩
            · have V := v_learnM (L := L) (xs := xs) (d := d + 3) (h := z) (t := t) (p := p) (n := ldN w g p k) zR ht (by omega) (by omega)
              rw [z83, (hp p (by omega)).1, (hp p (by omega)).2, (lsN_lsm (hab p hpn).1 (hab p hpn).2 _ (by omega)).1] at V
              refine s_X11_fridayWith_46_1 (d := d + 5) zR ht cl (by rw [z83, e20, nI_eq (by omega) (by omega)]; omega) V ?_
              rw [elast, nI_1]
              exact E
            · by_cases hpc : p = c
              · have V := v_learnM (L := L) (xs := xs) (d := d + 3) (h := z) (t := t) (p := q) (n := ldN w g p k) zR ht (by omega) (by omega)
                rw [z83, (hp q hq).1, (hp q hq).2, ← eas, ← ebs, ← hpc, (lsN_lsm (hab p hpn).1 (hab p hpn).2 _ (by omega)).1] at V
                refine s_X11_fridayWith_46_0 (d := d + 5) zR ht cl (by rw [z83, e20, hpc]) V ?_
                rw [elast, nI_1]
                exact E
              · have V := v_learnM (L := L) (xs := xs) (d := d + 3) (h := z) (t := t) (p := p) (n := ldN w g p k) zR ht (by omega) (by omega)
                rw [z83, (hp p (by omega)).1, (hp p (by omega)).2, (lsN_lsm (hab p hpn).1 (hab p hpn).2 _ (by omega)).1] at V
                refine s_X11_fridayWith_46_1 (d := d + 5) zR ht cl (by rw [z83, e20, nI_eq (by omega) (by omega)]; omega) V ?_
                rw [elast, nI_1]
                exact E
          | succ kk ihk =>
            intro k hk
            have E := ihk (k + 1) (by omega)
            have hgk := zb k (by omega)
            have cl : ¬ z.1 83 21 ≤ nI k := by rw [z83, e21]; exact nI_ge (by omega) (by omega)
            have e44 : (44 : Int32) + nI k = nI (44 + k) := by rw [show (44 : Int32) = nI 44 from rfl, nI_add]
            have es : ldN w g p (k + 1) = ldN w g p k + (if g k = p then w k else 0) := rfl
            by_cases hgp : g k = p
            · rw [es, if_pos hgp] at E
              refine s_X11_fridayWith_46_2 (d := d + 5) zR ht cl (nI_in (by omega) (by omega)) (by rw [nI_clamp (by omega), zg k (by omega), hgp]) (by rw [e44]; exact nI_in (by omega) (by omega)) ?_
              rw [e44, nI_clamp (by omega), z83, ew k (by omega), nI_add, nI_1]
              exact E
            · rw [es, if_neg hgp] at E
              refine s_X11_fridayWith_46_3 (d := d + 5) zR ht cl (nI_in (by omega) (by omega)) (by rw [nI_clamp (by omega), zg k (by omega), nI_eq (by omega) (by omega)]; exact hgp) ?_
              rw [Int32.add_zero, nI_1]
              exact E
        exact s_X11_fridayWith_39_3 (d := d + 5) (nI_ge hpn (by omega)) (lpK K 0 (by omega))
    exact lpP n 0 o6 o7 (by omega)
  have cpy : ∀ (z : xm_H), z.2 = h.2 → ∃ y, y.2 = z.2 ∧ (∀ q, q ≠ 98 → y.1 q = z.1 q) ∧ (∀ j, j < 6 → y.1 98 j = z.1 97 j) ∧ (∀ (x1 lt : Int32) (o6 o7 r : Option Value) (zz : xm_H), xm_E (xm_X0 L xs) xm_P (d + 12) co_X11_fridayWith 93 [some (.ref 82), some (.int ano), some (.int (nI n)), some (.int x1), some (.int lt), some (.int (nI 6)), o6, o7] [] y r zz → xm_E (xm_X0 L xs) xm_P (d + 12) co_X11_fridayWith 93 [some (.ref 82), some (.int ano), some (.int (nI n)), some (.int x1), some (.int lt), some (.int (nI 0)), o6, o7] [] z r zz) := by
    intro z0 z02
    have lp : ∀ k i (z : xm_H), k + i = 6 → z.2 = z0.2 → (∀ q, q ≠ 98 → z.1 q = z0.1 q) → (∀ j, j < i → z.1 98 j = z0.1 97 j) → ∃ y, y.2 = z0.2 ∧ (∀ q, q ≠ 98 → y.1 q = z0.1 q) ∧ (∀ j, j < 6 → y.1 98 j = z0.1 97 j) ∧ (∀ (x1 lt : Int32) (o6 o7 r : Option Value) (zz : xm_H), xm_E (xm_X0 L xs) xm_P (d + 12) co_X11_fridayWith 93 [some (.ref 82), some (.int ano), some (.int (nI n)), some (.int x1), some (.int lt), some (.int (nI 6)), o6, o7] [] y r zz → xm_E (xm_X0 L xs) xm_P (d + 12) co_X11_fridayWith 93 [some (.ref 82), some (.int ano), some (.int (nI n)), some (.int x1), some (.int lt), some (.int (nI i)), o6, o7] [] z r zz) := by
      intro k
      induction k with
      | zero =>
        intro i z hk a1 a2 a3
        have hic : i = 6 := by omega
        subst hic
        exact ⟨z, a1, a2, a3, fun _ _ _ _ _ _ E => E⟩
      | succ k ih =>
        intro i z hk a1 a2 a3
        have zR : z.2.2 = xm_R0 t := by rw [a1, z02]; exact hR
        obtain ⟨y, b1, b2, b3, b4⟩ := ih (i + 1) (xm_si z 98 i (z0.1 97 i)) (by omega) a1 (fun q hq => by rw [xm_rn hq]; exact a2 q hq) (fun j hj => by
          by_cases hji : j = i
          · subst hji
            exact xm_ra
          · rw [xm_rk hji]
            exact a3 j (by omega))
        refine ⟨y, b1, b2, b3, fun x1 lt o6 o7 r zz E => ?_⟩
        refine s_X11_fridayWith_93_2 (d := d + 5) zR ht (nI_ge (b := 6) (by omega) (by omega)) (nI_in (by omega) (by omega)) ?_
        rw [nI_clamp (by omega), a2 97 (by decide), nI_1]
        exact b4 x1 lt o6 o7 r zz E
    exact lp 6 0 z0 (by omega) rfl (fun _ _ => rfl) (fun j hj => absurd hj (by omega))
  have main : ∀ f g (x : Nat × (Nat → Nat)) (z : xm_H), endS n K f g → x.1 ≤ 1000000000 → z.2 = h.2 → (∀ q, q ≠ 97 → q ≠ 98 → z.1 q = h.1 q) → (∀ j, j < 6 → z.1 97 j = nI (g j)) → (∀ j, j < 6 → g j ≤ 5) → (x.1 = 1000000000 ∨ ∀ j, j < K → z.1 98 j = nI (x.2 j)) → ∃ zz, (∀ (i4 : Int32) (o5 o6 o7 : Option Value), xm_E (xm_X0 L xs) xm_P (d + 12) co_X11_fridayWith 35 [some (.ref 82), some (.int ano), some (.int (nI n)), some (.int (nI x.1)), some (.int i4), o5, o6, o7] [] z (some (.int (nI (odS (fun p => lsN (as p) (bs p)) w n K f g x).1))) zz) ∧ zz.2 = h.2 ∧ (∀ q, q ≠ 97 → q ≠ 98 → zz.1 q = h.1 q) ∧ ((odS (fun p => lsN (as p) (bs p)) w n K f g x).1 = 1000000000 ∨ ∀ j, j < K → zz.1 98 j = nI ((odS (fun p => lsN (as p) (bs p)) w n K f g x).2 j)) := by
    intro f
    induction f with
    | zero => intro g x z he; exact absurd he (by unfold endS; exact id)
    | succ f ih =>
      intro g x z he hx z2 zq zg zb zx
      have hmb := mxb g n (Nat.le_refl _)
      have zR : z.2.2 = xm_R0 t := by rw [z2]; exact hR
      have emin : (if nI (mxN (fun p => lsN (as p) (bs p)) w g K n) < nI x.1 then nI (mxN (fun p => lsN (as p) (bs p)) w g K n) else nI x.1) = nI (upS (fun p => lsN (as p) (bs p)) w n K x g).1 := by
        unfold upS
        by_cases hcm : mxN (fun p => lsN (as p) (bs p)) w g K n < x.1
        · rw [if_pos (nI_lt hcm (by omega)), if_pos hcm]
        · rw [if_neg (nI_nlt (by omega) (by omega)), if_neg hcm]
      have hup : (upS (fun p => lsN (as p) (bs p)) w n K x g).1 ≤ 1000000000 := by
        unfold upS
        split
        · show mxN (fun p => lsN (as p) (bs p)) w g K n ≤ 1000000000
          omega
        · exact hx
      have step : ∃ y, y.2 = h.2 ∧ (∀ q, q ≠ 97 → q ≠ 98 → y.1 q = h.1 q) ∧ (∀ j, j < 6 → y.1 97 j = nI (g j)) ∧ ((upS (fun p => lsN (as p) (bs p)) w n K x g).1 = 1000000000 ∨ ∀ j, j < K → y.1 98 j = nI ((upS (fun p => lsN (as p) (bs p)) w n K x g).2 j)) ∧ (∀ (h0 : xm_H), xm_V (xm_X0 L xs) xm_P (d + 12) 318 [.ref 82, .int (nI n)] y (some (.int 0)) h0 → ∀ o6 o7 : Option Value, xm_E (xm_X0 L xs) xm_P (d + 12) co_X11_fridayWith 39 [some (.ref 82), some (.int ano), some (.int (nI n)), some (.int (nI x.1)), some (.int (nI (mxN (fun p => lsN (as p) (bs p)) w g K n))), some (.int (nI n)), o6, o7] [] z (some (.int (nI (upS (fun p => lsN (as p) (bs p)) w n K x g).1))) h0) ∧ (∀ (h0 : xm_H), xm_V (xm_X0 L xs) xm_P (d + 12) 318 [.ref 82, .int (nI n)] y (some (.int 1)) h0 → ∀ (r : Option Value) (zz : xm_H), (∀ (i4 : Int32) (o5 o6 o7 : Option Value), xm_E (xm_X0 L xs) xm_P (d + 12) co_X11_fridayWith 35 [some (.ref 82), some (.int ano), some (.int (nI n)), some (.int (nI (upS (fun p => lsN (as p) (bs p)) w n K x g).1)), some (.int i4), o5, o6, o7] [] h0 r zz) → ∀ o6 o7 : Option Value, xm_E (xm_X0 L xs) xm_P (d + 12) co_X11_fridayWith 39 [some (.ref 82), some (.int ano), some (.int (nI n)), some (.int (nI x.1)), some (.int (nI (mxN (fun p => lsN (as p) (bs p)) w g K n))), some (.int (nI n)), o6, o7] [] z r zz) := by
        have nn : nI n ≤ nI n := nI_le (Nat.le_refl _) (by omega)
        by_cases hcm : mxN (fun p => lsN (as p) (bs p)) w g K n < x.1
        · obtain ⟨y, y1, y2, y3, y4⟩ := cpy z z2
          have eu : upS (fun p => lsN (as p) (bs p)) w n K x g = (mxN (fun p => lsN (as p) (bs p)) w g K n, g) := by unfold upS; rw [if_pos hcm]
          refine ⟨y, y1.trans z2, fun q q1 q2 => by rw [y2 q q2]; exact zq q q1 q2, fun j hj => by rw [y2 97 (by decide)]; exact zg j hj, Or.inr (fun j hj => by rw [y3 j (by omega), zg j (by omega), eu]), fun h0 V o6 o7 => ?_, fun h0 V r zz EE o6 o7 => ?_⟩
          · refine s_X11_fridayWith_39_2 (d := d + 5) nn (nI_ge hcm (by omega)) (y4 _ _ _ _ _ _ ?_)
            have E := s_X11_fridayWith_93_0 (L := L) (xs := xs) (d := d + 5) (h := y) (l1 := ano) (l2 := nI n) (l3 := nI x.1) (l4 := nI (mxN (fun p => lsN (as p) (bs p)) w g K n)) (l5 := nI 6) (l6 := o6) (l7 := o7) (by decide) V rfl
            rw [emin] at E
            exact E
          · refine s_X11_fridayWith_39_2 (d := d + 5) nn (nI_ge hcm (by omega)) (y4 _ _ _ _ _ _ ?_)
            refine s_X11_fridayWith_93_1 (d := d + 5) (by decide) V (by decide) ?_
            rw [emin]
            exact EE _ _ _ _
        · have eu : upS (fun p => lsN (as p) (bs p)) w n K x g = x := by unfold upS; rw [if_neg hcm]
          refine ⟨z, z2, zq, zg, by rw [eu]; exact zx, fun h0 V o6 o7 => ?_, fun h0 V r zz EE o6 o7 => ?_⟩
          · have E := s_X11_fridayWith_39_0 (L := L) (xs := xs) (d := d + 5) (h := z) (l1 := ano) (l2 := nI n) (l3 := nI x.1) (l4 := nI (mxN (fun p => lsN (as p) (bs p)) w g K n)) (l5 := nI n) (l6 := o6) (l7 := o7) nn (nI_le (by omega) (by omega)) V rfl
            rw [emin] at E
            exact E
          · refine s_X11_fridayWith_39_1 (d := d + 5) nn (nI_le (by omega) (by omega)) V (by decide) ?_
            rw [emin]
            exact EE _ _ _ _
      obtain ⟨y, y1, y2, y3, y4, y5, y6⟩ := step
      have yR : y.2.2 = xm_R0 t := by rw [y1]; exact hR
      obtain ⟨z', ⟨b1, b2⟩, b3, b4⟩ := v_next (L := L) (xs := xs) (d := d + 4) (z := y) (t := t) (n := n) (K := K) (g := g) yR ht hK hn5 (by rw [y2 83 (by decide) (by decide)]; exact e21) y3 zb
      have z'q : ∀ q, q ≠ 97 → q ≠ 98 → z'.1 q = h.1 q := fun q q1 q2 => by rw [b2 q q1]; exact y2 q q1 q2
      cases hnx : nxS n g K with
      | none =>
        have eo : odS (fun p => lsN (as p) (bs p)) w n K (f + 1) g x = upS (fun p => lsN (as p) (bs p)) w n K x g := by simp only [odS, hnx]
        rw [eo]
        refine ⟨z', fun i4 o5 o6 o7 => s_X11_fridayWith_35_0 (d := d + 5) (body z g x.1 _ _ z2 zq zg zb (fun o6 o7 => y5 z' (b3 hnx) o6 o7) o6 o7), b1.trans y1, z'q, ?_⟩
        rcases y4 with y4 | y4
        · exact Or.inl y4
        · exact Or.inr (fun j hj => by rw [b2 98 (by decide)]; exact y4 j hj)
      | some g' =>
        have eo : odS (fun p => lsN (as p) (bs p)) w n K (f + 1) g x = odS (fun p => lsN (as p) (bs p)) w n K f g' (upS (fun p => lsN (as p) (bs p)) w n K x g) := by simp only [odS, hnx]
        have he' : endS n K f g' := by
          have := he
          simp only [endS, hnx] at this
          exact this
        obtain ⟨c1, c2, c3, -⟩ := b4 g' hnx
        obtain ⟨zz, E, r⟩ := ih g' (upS (fun p => lsN (as p) (bs p)) w n K x g) z' he' hup (b1.trans y1) z'q c2 c3 (by
          rcases y4 with y4 | y4
          · exact Or.inl y4
          · exact Or.inr (fun j hj => by rw [b2 98 (by decide)]; exact y4 j hj))
        rw [eo]
        exact ⟨zz, fun i4 o5 o6 o7 => s_X11_fridayWith_35_0 (d := d + 5) (body z g x.1 _ _ z2 zq zg zb (fun o6 o7 => y6 z' c1 _ zz E o6 o7) o6 o7), r⟩
  have e0 : ∃ f, endS n K f (fun _ => 0) ∧ odS (fun p => lsN (as p) (bs p)) w n K f (fun _ => 0) (1000000000, fun _ => 0) = alS (fun p => lsN (as p) (bs p)) w n K K (fun _ => 0) (1000000000, fun _ => 0) := by
    rcases hnK with hn0 | hK0
    · refine ⟨n ^ K + 0, ?_, ?_⟩
      · rw [endS_al hn0 K _ 0 (Nat.le_refl _) (fun _ _ => rfl), Nat.sub_self]
        trivial
      · rw [odS_al hn0 K _ _ 0 (Nat.le_refl _) (fun _ _ => rfl), Nat.sub_self]
        rfl
    · subst hK0
      exact ⟨1, trivial, rfl⟩
  obtain ⟨f, he, eo⟩ := e0
  have l25 : ∀ k i (z : xm_H), k + i = 6 → z.2 = h.2 → (∀ q, q ≠ 97 → z.1 q = h.1 q) → (∀ j, j < i → z.1 97 j = nI 0) → ∃ zz, xm_E (xm_X0 L xs) xm_P (d + 12) co_X11_fridayWith 25 [some (.ref 82), some (.int ano), some (.int (nI n)), some (.int (nI 1000000000)), some (.int (nI i)), none, none, none] [] z (some (.int (nI (odS (fun p => lsN (as p) (bs p)) w n K f (fun _ => 0) (1000000000, fun _ => 0)).1))) zz ∧ zz.2 = h.2 ∧ (∀ q, q ≠ 97 → q ≠ 98 → zz.1 q = h.1 q) ∧ ((odS (fun p => lsN (as p) (bs p)) w n K f (fun _ => 0) (1000000000, fun _ => 0)).1 = 1000000000 ∨ ∀ j, j < K → zz.1 98 j = nI ((odS (fun p => lsN (as p) (bs p)) w n K f (fun _ => 0) (1000000000, fun _ => 0)).2 j)) := by
    intro k
    induction k with
    | zero =>
      intro i z hk a1 a2 a3
      have hic : i = 6 := by omega
      subst hic
      obtain ⟨zz, E, r⟩ := main f (fun _ => 0) (1000000000, fun _ => 0) z he (Nat.le_refl _) a1 (fun q q1 _ => a2 q q1) a3 (fun j _ => by omega) (Or.inl rfl)
      exact ⟨zz, s_X11_fridayWith_25_0 (d := d + 5) (by decide) (E _ _ _ _), r⟩
    | succ k ih =>
      intro i z hk a1 a2 a3
      have zR : z.2.2 = xm_R0 t := by rw [a1]; exact hR
      have gi : ¬ (nI i < 0 ∨ 6 ≤ (nI i).toNatClampNeg) := nI_in (by omega) (by omega)
      have gl : ¬ (6 : Int32) ≤ nI i := nI_ge (b := 6) (by omega) (by omega)
      have ci : (nI i).toNatClampNeg = i := nI_clamp (by omega)
      obtain ⟨zz, E, r⟩ := ih (i + 1) (xm_si z 97 i 0) (by omega) a1 (fun q hq => by rw [xm_rn hq]; exact a2 q hq) (fun j hj => by
        by_cases hji : j = i
        · subst hji
          exact xm_ra
        · rw [xm_rk hji]
          exact a3 j (by omega))
      refine ⟨zz, ?_, r⟩
      refine s_X11_fridayWith_25_1 (d := d + 5) zR ht gl gi ?_
      rw [ci, nI_1]
      exact E
  obtain ⟨zz, E, r1, r2, r3⟩ := l25 6 0 h (by omega) rfl (fun _ _ => rfl) (fun j hj => absurd hj (by omega))
  rw [eo] at E r3
  refine ⟨zz, ?_, r1, r2, r3⟩
  clear r3 r2 r1 l25 main cpy body
  rcases hano with ⟨rfl, hnc⟩ | ⟨q, hq, rfl, hnc, -⟩
  · have en : h.1 83 20 + (0 : Int32) = nI n := by rw [e20, Int32.add_zero, hnc]
    by_cases hK0 : K = 0
    · exact v_X11_fridayWith (d := d + 12) (s_X11_fridayWith_0_0 (d := d + 5) hR ht rfl (by rw [e21, hK0]; decide) (by rw [en]; exact E))
    · have hn0 : 0 < n := by omega
      exact v_X11_fridayWith (d := d + 12) (s_X11_fridayWith_0_2 (d := d + 5) hR ht rfl (by rw [e21]; exact nI_nle (by omega) (by omega)) (by rw [en]; exact nI_ne0 hn0 (by omega)) (by rw [en]; exact E))
  · have en : h.1 83 20 + (1 : Int32) = nI n := by rw [e20, nI_1, hnc]
    have hn0 : 0 < n := by omega
    by_cases hK0 : K = 0
    · exact v_X11_fridayWith (d := d + 12) (s_X11_fridayWith_0_3 (d := d + 5) hR ht (n_1 (by omega)) (by rw [e21, hK0]; decide) (by rw [en]; exact E))
    · exact v_X11_fridayWith (d := d + 12) (s_X11_fridayWith_0_5 (d := d + 5) hR ht (n_1 (by omega)) (by rw [e21]; exact nI_nle (by omega) (by omega)) (by rw [en]; exact nI_ne0 hn0 (by omega)) (by rw [en]; exact E))
end OPS
