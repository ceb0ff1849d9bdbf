/-! Who folds which pile: the class's least seconds. -/
section OPS
variable {L : Nat} {xs : Nat → Int32} {d : Nat} {SI : (Nat → Nat → Int32) → (Nat → Nat → Int64) → Prop}
theorem v_fillI {h : xm_H} {v n : Nat} {x : Int32} (hv : (xm_X0 L xs).1[v]? = some (.inl (0, n))) (hn : n < 1048576) : ∃ g, xm_V (xm_X0 L xs) xm_P (d + 1) 6 [.ref v, .int x] h none g ∧ g.2 = h.2 ∧ (∀ q, q ≠ v → g.1 q = h.1 q) ∧ (∀ i, i < n → g.1 v i = x) := by
  have loop : ∀ k i (g : xm_H), k + i = n → g.2 = h.2 → (∀ q, q ≠ v → g.1 q = h.1 q) → (∀ j, j < i → g.1 v j = x) → ∃ g', xm_E (xm_X0 L xs) xm_P d co_J7_fill_53178 5 [some (.ref v), some (.int x), some (.int (nI i)), some (.int (nI n))] [] g none g' ∧ g'.2 = h.2 ∧ (∀ q, q ≠ v → g'.1 q = h.1 q) ∧ (∀ j, j < n → g'.1 v j = x) := by
    intro k
    induction k with
    | zero =>
      intro i g hk a1 a3 a4
      have hic : i = n := by omega
      subst hic
      exact ⟨g, p_J7_fill_53178_5_0 (nI_le (by omega) (by omega)), a1, a3, a4⟩
    | succ k ih =>
      intro i g hk a1 a3 a4
      obtain ⟨g', b0, b⟩ := ih (i + 1) (xm_si g v i x) (by omega) a1 (fun q hq => by rw [xm_rn hq]; exact a3 q hq) (fun j hj => by
        by_cases hji : j = i
        · subst hji
          exact xm_ra
        · rw [xm_rk hji]
          exact a4 j (by omega))
      refine ⟨g', ?_, b⟩
      refine p_J7_fill_53178_5_1 (nI_ge (by omega) (by omega)) hv (nI_in (by omega) (by omega)) ?_
      rw [nI_clamp (by omega), nI_1]
      exact b0
  obtain ⟨g', b0, b⟩ := loop n 0 h (by omega) rfl (fun _ _ => rfl) (fun j hj => absurd hj (by omega))
  exact ⟨g', v_J7_fill_53178 (p_J7_fill_53178_0_0 hv b0), b⟩
theorem v_fillT {h : xm_H} {t p q a b : Nat} (hR : h.2.2 = xm_R0 t) (ht : t = 5 ∨ t = 13) (hp : p < 5) (hq : q < 4) (e5 : h.1 (t + 5) q = nI a) (e6 : h.1 (t + 6) q = nI b) (ha : a ≤ 99) (hb : b ≤ 999) : ∃ g, xm_V (xm_X0 L xs) xm_P (d + 8) 161 [.ref 74, .ref t, .int (nI p), .int (nI q)] h none g ∧ g.2 = h.2 ∧ (∀ c, c ≠ 75 → g.1 c = h.1 c) ∧ (∀ i, (i < p * 361 ∨ p * 361 + 361 ≤ i) → g.1 75 i = h.1 75 i) ∧ (∀ i, i < 361 → g.1 75 (p * 361 + i) = nI (lsN a b i)) := by
  have loop : ∀ k i (z : xm_H), k + i = 361 → z.2 = h.2 → (∀ c, c ≠ 75 → z.1 c = h.1 c) → (∀ i, (i < p * 361 ∨ p * 361 + 361 ≤ i) → z.1 75 i = h.1 75 i) → (∀ j, j < i → z.1 75 (p * 361 + j) = nI (lsN a b j)) → ∃ g, xm_E (xm_X0 L xs) xm_P (d + 7) co_X4_fillTimes 10 [some (.ref 74), some (.ref t), some (.int (nI p)), some (.int (nI q)), some (.int (nI (lsN a b i))), some (.int (nI i))] [] z none g ∧ g.2 = h.2 ∧ (∀ c, c ≠ 75 → g.1 c = h.1 c) ∧ (∀ i, (i < p * 361 ∨ p * 361 + 361 ≤ i) → g.1 75 i = h.1 75 i) ∧ (∀ j, j < 361 → g.1 75 (p * 361 + j) = nI (lsN a b j)) := by
    intro k
    induction k with
    | zero =>
      intro i z hk a1 a2 a3 a4
      have hic : i = 361 := by omega
      subst hic
      exact ⟨z, s_X4_fillTimes_10_0 (d := d) ht (by decide), a1, a2, a3, a4⟩
    | succ k ih =>
      intro i z hk a1 a2 a3 a4
      have zR : z.2.2 = xm_R0 t := by rw [a1]; exact hR
      have ei : (nI p * (361 : Int32)) + nI i = nI (p * 361 + i) := by rw [show (361 : Int32) = nI 361 from rfl, nm_mul, nI_add]
      obtain ⟨g, b0, b'⟩ := ih (i + 1) (xm_si z 75 (p * 361 + i) (nI (lsN a b i))) (by omega) a1 (fun c hc => by rw [xm_rn hc]; exact a2 c hc) (fun j hj => by rw [xm_rk (by omega)]; exact a3 j hj) (fun j hj => by
        by_cases hji : j = i
        · subst hji
          exact xm_ra
        · rw [xm_rk (by omega)]
          exact a4 j (by omega))
      refine ⟨g, ?_, b'⟩
      refine s_X4_fillTimes_10_1 (d := d) zR ht (nI_ge (b := 361) (by omega) (by omega)) (by rw [ei]; exact nI_in (by omega) (by omega)) ?_
      have es : F_X0_secondsForSheet (xm_si z 75 (p * 361 + i) (nI (lsN a b i))) t (nI q) (nI i) = nI (a + b / (i + 1)) := by
        unfold F_X0_secondsForSheet
        rw [if_neg (nI_pos (by omega)), if_neg (show ¬ Int32.ofNat 4 ≤ nI q from nI_ge (b := 4) (by omega) (by omega)), if_neg (nI_pos (by omega)), if_pos (show nI i ≤ (999 : Int32) from nI_le (b := 999) (by omega) (by omega)), nI_clamp (by omega), xm_rn (show t + 5 ≠ 75 by omega), xm_rn (show t + 6 ≠ 75 by omega), a2 (t + 5) (by omega), a2 (t + 6) (by omega), e5, e6, nI_1, nm_div (by omega) (by omega), nI_add]
      rw [ei, nI_clamp (by omega), es, nI_add, nI_1]
      exact b0
  obtain ⟨g, b0, b'⟩ := loop 361 0 h (by omega) rfl (fun _ _ => rfl) (fun _ _ => rfl) (fun j hj => absurd hj (by omega))
  exact ⟨g, v_X4_fillTimes (d := d + 7) (s_X4_fillTimes_0_1 (d := d) ht (nI_pos (by omega)) (nI_lt (b := 5) (by omega) (by omega)) b0), b'⟩
theorem piles_of {h : xm_H} {t : Nat} (hw : rl_wf (h.1 83)) (hli : rl_lin (h.1 t) (h.1 (t + 1)) (h.1 (t + 2)) (h.1 (t + 3)) (h.1 (t + 4)) (h.1 (t + 5)) (h.1 (t + 6)) (h.1 (t + 7)) (h.1 83)) : ∃ (K : Nat) (w : Nat → Nat), K ≤ 6 ∧ h.1 t 11 = nI K ∧ h.1 83 21 = nI K ∧ (h.1 83 22 = 0 → K = 0) ∧ (∀ k, w k ≤ 60) ∧ (∀ k, k < K → h.1 (t + 7) k = nI (w k) ∧ h.1 83 (44 + k) = nI (w k)) := by
  obtain ⟨-, hz, -, -, -, -, -, -, -, ⟨c, hc, e21, hcs⟩, -⟩ := hw
  obtain ⟨-, -, -, -, -, -, -, -, -, -, -, l11, -, -, -, -, -, l17⟩ := hli
  refine ⟨c, fun k => if k < c then (h.1 83 (44 + k)).toNatClampNeg else 0, hc, l11.trans e21, e21, fun h0 => ?_, fun k => ?_, fun k hk => ?_⟩
  · have := hz h0 21 (by omega)
    rw [e21, show (0 : Int32) = nI 0 from rfl, nI_eq (by omega) (by omega)] at this
    exact this
  · show (if k < c then (h.1 83 (44 + k)).toNatClampNeg else 0) ≤ 60
    split
    · rename_i hk
      obtain ⟨v, -, hv, ev⟩ := hcs k hk
      rw [ev, nI_clamp (by omega)]
      exact hv
    · omega
  · obtain ⟨v, -, hv, ev⟩ := hcs k hk
    have e : (if k < c then (h.1 83 (44 + k)).toNatClampNeg else 0) = v := by rw [if_pos hk, ev, nI_clamp (by omega)]
    show h.1 (t + 7) k = nI (if k < c then (h.1 83 (44 + k)).toNatClampNeg else 0) ∧ h.1 83 (44 + k) = nI (if k < c then (h.1 83 (44 + k)).toNatClampNeg else 0)
    rw [e]
    exact ⟨by rw [l17 k (by rw [e21]; exact nI_lt hk (by omega)) (by omega), ev], ev⟩
/-- least seconds by the class: as, bs are what the pairs are like; the last may be another's -/
theorem v_leastX {h : xm_H} {t c K n : Nat} {w as bs : Nat → Nat} {ano : Int32} (hR : h.2.2 = xm_R0 t) (ht : t = 5 ∨ t = 13) (hc0 : 0 < c) (hc : c ≤ 4) (hK0 : 0 < K) (hK : K ≤ 6) (e10 : h.1 t 10 = nI c) (e11 : h.1 t 11 = nI K) (hw : ∀ k, w k ≤ 60) (ew : ∀ k, k < K → h.1 (t + 7) k = nI (w k)) (hab : ∀ p, p < n → as p ≤ 99 ∧ bs p ≤ 999) (hp : ∀ p, p < c → h.1 (t + 5) p = nI (as p) ∧ h.1 (t + 6) p = nI (bs p)) (hano : (ano = -1 ∧ n = c) ∨ (∃ q, q < c ∧ ano = nI q ∧ n = c + 1 ∧ as c = as q ∧ bs c = bs q)) : ∃ g, xm_V (xm_X0 L xs) xm_P (d + 20) 160 [.ref 74, .ref t, .int ano] h (some (.int (nI (alS (fun p => lsN (as p) (bs p)) w n K K (fun _ => 0) (2147483647, fun _ => 0)).1))) g ∧ g.2 = h.2 ∧ (∀ q, (q < 74 ∨ 78 < q) → g.1 q = h.1 q) ∧ ((alS (fun p => lsN (as p) (bs p)) w n K K (fun _ => 0) (2147483647, fun _ => 0)).1 = 2147483647 ∨ ∀ j, j < K → g.1 78 j = nI ((alS (fun p => lsN (as p) (bs p)) w n K K (fun _ => 0) (2147483647, fun _ => 0)).2 j)) := by
  have hcn : c ≤ n := by
    rcases hano with ⟨-, h1⟩ | ⟨q, -, -, h1, -⟩ <;> omega
  have hn5 : n ≤ 5 := by
    rcases hano with ⟨-, h1⟩ | ⟨q, -, -, h1, -⟩ <;> omega
  have fin : ∀ (z : xm_H), z.2 = h.2 → (∀ q, (q < 74 ∨ 78 < q) → z.1 q = h.1 q) → z.1 74 4 = nI n → (∀ p i, p < n → i ≤ 360 → z.1 75 (p * 361 + i) = nI (lsN (as p) (bs p) i)) → ∃ g1 g, xm_V (xm_X0 L xs) xm_P (d + 19) 6 [.ref 76, .int (0 : Int32)] z none g1 ∧ xm_V (xm_X0 L xs) xm_P (d + 19) 162 [.ref 74, .ref t, .int (0 : Int32), .int (0 : Int32)] (xm_si g1 74 5 (2147483647 : Int32)) none g ∧ g.1 74 5 = nI (alS (fun p => lsN (as p) (bs p)) w n K K (fun _ => 0) (2147483647, fun _ => 0)).1 ∧ g.2 = h.2 ∧ (∀ q, (q < 74 ∨ 78 < q) → g.1 q = h.1 q) ∧ ((alS (fun p => lsN (as p) (bs p)) w n K K (fun _ => 0) (2147483647, fun _ => 0)).1 = 2147483647 ∨ ∀ j, j < K → g.1 78 j = nI ((alS (fun p => lsN (as p) (bs p)) w n K K (fun _ => 0) (2147483647, fun _ => 0)).2 j)) := by
    intro z z2 zq z74 zT
    obtain ⟨g1, VF, f1, f2, f3⟩ := v_fillI (L := L) (xs := xs) (d := d + 18) (h := z) (v := 76) (n := 5) (x := 0) rfl (by omega)
    have hT : ∀ p i j, i ≤ j → (fun p => lsN (as p) (bs p)) p i ≤ (fun p => lsN (as p) (bs p)) p j := fun p i j hij => by
      have := lsN_mono (as p) (bs p) i (j - i)
      rw [show i + (j - i) = j by omega] at this
      exact this
    have hTb : ∀ p i, p < n → i ≤ 360 → (fun p => lsN (as p) (bs p)) p i < 1000000 := fun p i hpn hi => by
      have := (lsN_lsm (hab p hpn).1 (hab p hpn).2 i (by omega)).2
      show lsN (as p) (bs p) i < 1000000
      omega
    have m0 : mxN (fun p => lsN (as p) (bs p)) w (fun _ => 0) 0 n = 0 := by
      apply Nat.le_antisymm _ (Nat.zero_le _)
      exact mxN_le (fun p _ => Nat.le_refl _)
    let y : xm_H := xm_si g1 74 5 (2147483647 : Int32)
    have yq : ∀ q, (q < 74 ∨ 78 < q) → y.1 q = h.1 q := fun q hq => by
      show (xm_si g1 74 5 (2147483647 : Int32)).1 q = h.1 q
      rw [xm_rn (by omega), f2 q (by omega), zq q hq]
    have I0 : shI y (fun p => lsN (as p) (bs p)) w n K y (fun _ => 0) 0 (2147483647, fun _ => 0) := by
      refine ⟨rfl, fun _ _ _ _ _ => rfl, ?_, ?_, Nat.le_refl _, fun p hpn => ?_, fun j hj => absurd hj (by omega), Or.inl rfl⟩
      · show (xm_si g1 74 5 (2147483647 : Int32)).1 74 4 = nI n
        rw [xm_rk (by decide), f2 74 (by decide)]
        exact z74
      · exact xm_ra
      · show (xm_si g1 74 5 (2147483647 : Int32)).1 76 p = nI 0
        rw [xm_rn (by decide), f3 p (by omega)]
        rfl
    have yR : y.2.2 = xm_R0 t := by
      show g1.2.2 = xm_R0 t
      rw [f1, z2]
      exact hR
    obtain ⟨g, VS, J⟩ := v_share (L := L) (xs := xs) (d := d + 11 - K) (h := y) (t := t) (n := n) (K := K) (T := fun p => lsN (as p) (bs p)) (w := w) yR ht hK hn5 (by rw [yq t (by omega)]; exact e11) hw (fun k hk => by rw [yq (t + 7) (by omega)]; exact ew k hk) hT hTb (fun p i hpn hi => by
      show (xm_si g1 74 5 (2147483647 : Int32)).1 75 (p * 361 + i) = _
      rw [xm_rn (by decide), f2 75 (by decide)]
      exact zT p i hpn hi) K 0 (fun _ => 0) (2147483647, fun _ => 0) y (by omega) I0 (by rw [m0]; show 0 < 2147483647; omega)
    rw [m0, show d + 11 - K + K + 8 = d + 19 by omega] at VS
    rw [shS_alS hT K _ _ (Nat.le_refl _) (by rw [Nat.sub_self, m0]; show 0 < 2147483647; omega)] at J
    obtain ⟨j1, j2, j3, j4, j5, j6, j7, j8⟩ := J
    refine ⟨g1, g, VF, VS, j4, ?_, fun q hq => ?_, j8⟩
    · rw [j1]
      show g1.2 = h.2
      rw [f1, z2]
    · rw [j2 q (by omega) (by omega) (by omega) (by omega), yq q hq]
  have loop : ∀ k i (z : xm_H), k + i = c → z.2 = h.2 → (∀ q, q ≠ 75 → z.1 q = h.1 q) → (∀ p j, p < i → j ≤ 360 → z.1 75 (p * 361 + j) = nI (lsN (as p) (bs p) j)) → ∃ g, xm_E (xm_X0 L xs) xm_P (d + 19) co_X4_leastSeconds 12 [some (.ref 74), some (.ref t), some (.int ano), some (.int (nI i))] [] z (some (.int (nI (alS (fun p => lsN (as p) (bs p)) w n K K (fun _ => 0) (2147483647, fun _ => 0)).1))) g ∧ g.2 = h.2 ∧ (∀ q, (q < 74 ∨ 78 < q) → g.1 q = h.1 q) ∧ ((alS (fun p => lsN (as p) (bs p)) w n K K (fun _ => 0) (2147483647, fun _ => 0)).1 = 2147483647 ∨ ∀ j, j < K → g.1 78 j = nI ((alS (fun p => lsN (as p) (bs p)) w n K K (fun _ => 0) (2147483647, fun _ => 0)).2 j)) := by
    intro k
    induction k with
    | zero =>
      intro i z hk a1 a2 a3
      have hic : i = c := by omega
      subst hic
      have zR : z.2.2 = xm_R0 t := by rw [a1]; exact hR
      have z10 : z.1 t 10 = nI i := by rw [a2 t (by omega)]; exact e10
      have cl : z.1 t 10 ≤ nI i := by rw [z10]; exact nI_le (Nat.le_refl _) (by omega)
      rcases hano with ⟨rfl, hn⟩ | ⟨q, hq, rfl, hn, eas, ebs⟩
      · subst hn
        obtain ⟨g1, g, VF, VS, e5, r⟩ := fin (xm_si z 74 4 (nI n)) a1 (fun q hq => by rw [xm_rn (by omega), a2 q (by omega)]) xm_ra (fun p j hpn hj => by rw [xm_rn (by decide)]; exact a3 p j hpn hj)
        have E := s_X4_leastSeconds_12_0 (L := L) (xs := xs) (d := d + 12) (h := z) (t := t) (l2 := -1) (l3 := nI n) zR ht cl rfl (by rw [z10]; exact VF) VS
        rw [e5] at E
        exact ⟨g, E, r⟩
      · have zR' : (xm_si z 74 4 (nI i)).2.2 = xm_R0 t := zR
        obtain ⟨g0, VT, t1, t2, t3, t4⟩ := v_fillT (L := L) (xs := xs) (d := d + 11) (h := xm_si z 74 4 (nI i)) (t := t) (p := i) (q := q) (a := as q) (b := bs q) zR' ht (by omega) (by omega) (by rw [xm_rn (by omega), a2 (t + 5) (by omega)]; exact (hp q hq).1) (by rw [xm_rn (by omega), a2 (t + 6) (by omega)]; exact (hp q hq).2) (hab q (by omega)).1 (hab q (by omega)).2
        have g0R : g0.2.2 = xm_R0 t := by rw [t1]; exact zR
        have g4 : g0.1 74 4 = nI i := by rw [t2 74 (by decide), xm_ra]
        obtain ⟨g1, g, VF, VS, e5, r⟩ := fin (xm_si g0 74 4 (nI n)) (by show g0.2 = h.2; rw [t1]; exact a1) (fun q' hq' => by rw [xm_rn (by omega), t2 q' (by omega), xm_rn (by omega), a2 q' (by omega)]) xm_ra (fun p j hpn hj => by
          rw [xm_rn (by decide)]
          by_cases hpi : p = i
          · subst hpi
            rw [t4 j (by omega), eas, ebs]
          · rw [t3 (p * 361 + j) (by omega), xm_rn (by decide)]
            exact a3 p j (by omega) hj)
        have E := s_X4_leastSeconds_12_1 (L := L) (xs := xs) (d := d + 12) (h := z) (t := t) (l2 := nI q) (l3 := nI i) (h0 := g0) (h2 := g1) (h3 := g) ht cl (n_1 (by omega)) (by rw [z10, xm_ra]; exact VT) g0R (by rw [g4, nI_1, ← hn]; exact VF) VS
        rw [e5] at E
        exact ⟨g, E, r⟩
    | succ k ih =>
      intro i z hk a1 a2 a3
      have zR : z.2.2 = xm_R0 t := by rw [a1]; exact hR
      obtain ⟨g0, VT, t1, t2, t3, t4⟩ := v_fillT (L := L) (xs := xs) (d := d + 11) (h := z) (t := t) (p := i) (q := i) (a := as i) (b := bs i) zR ht (by omega) (by omega) (by rw [a2 (t + 5) (by omega)]; exact (hp i (by omega)).1) (by rw [a2 (t + 6) (by omega)]; exact (hp i (by omega)).2) (hab i (by omega)).1 (hab i (by omega)).2
      have cl' : ¬ z.1 t 10 ≤ nI i := by
        rw [a2 t (by omega), e10]
        exact nI_ge (by omega) (by omega)
      obtain ⟨g, E, r⟩ := ih (i + 1) g0 (by omega) (by rw [t1, a1]) (fun q hq => by rw [t2 q hq, a2 q hq]) (fun p j hpi hj => by
        by_cases hpi' : p = i
        · subst hpi'
          exact t4 j (by omega)
        · rw [t3 (p * 361 + j) (by omega)]
          exact a3 p j (by omega) hj)
      rw [← nI_1] at E
      exact ⟨g, s_X4_leastSeconds_12_2 (d := d + 12) ht cl' VT E, r⟩
  obtain ⟨g, E, r⟩ := loop c 0 h (by omega) rfl (fun _ _ => rfl) (fun p j hp0 => absurd hp0 (by omega))
  exact ⟨g, v_X4_leastSeconds (d := d + 19) (s_X4_leastSeconds_0_2 (d := d + 12) ht (by rw [e11]; exact nI_ne0 hK0 (by omega)) (by rw [e10]; exact nI_ne0 hc0 (by omega)) E), r⟩
end OPS
