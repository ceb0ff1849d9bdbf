/-! Pairs that learn; what is counted; the press. -/
theorem ix_36 (j : Nat) : (36 : Int32) + ((2 : Int32) * nI j) = nI (36 + 2 * j) := by rw [show (36 : Int32) = nI 36 from rfl, show (2 : Int32) = nI 2 from rfl, nm_mul, nI_add]
theorem ix_37 (j : Nat) : ((36 : Int32) + ((2 : Int32) * nI j)) + (1 : Int32) = nI (37 + 2 * j) := by
  rw [ix_36, nI_1]
  congr 1
  omega
theorem g_36 {j : Nat} (hj : j ≤ 4) : ¬ ((36 : Int32) + ((2 : Int32) * nI j) < 0 ∨ 110 ≤ ((36 : Int32) + ((2 : Int32) * nI j)).toNatClampNeg) := by
  rw [ix_36]
  exact nI_in (by omega) (by omega)
theorem g_37 {j : Nat} (hj : j ≤ 4) : ¬ (((36 : Int32) + ((2 : Int32) * nI j)) + (1 : Int32) < 0 ∨ 110 ≤ (((36 : Int32) + ((2 : Int32) * nI j)) + (1 : Int32)).toNatClampNeg) := by
  rw [ix_37]
  exact nI_in (by omega) (by omega)
/-- seconds for the first n sheets -/
def lsm (A B : Int32) : Nat → Int32
  | 0 => 0
  | k + 1 => lsm A B k + (A + B / nI (k + 1))
theorem lsm_le {a b : Nat} (ha : a ≤ 99) (hb : b ≤ 999) : ∀ n, n ≤ 1000 → ∃ v, v ≤ n * 1098 ∧ lsm (nI a) (nI b) n = nI v
  | 0, _ => ⟨0, by omega, rfl⟩
  | n + 1, hn => by
    obtain ⟨v, hv, e⟩ := lsm_le ha hb n (by omega)
    have hq : b / (n + 1) ≤ b := Nat.div_le_self _ _
    refine ⟨v + (a + b / (n + 1)), by omega, ?_⟩
    simp only [lsm]
    rw [e, nm_div (by omega) (by omega), nI_add, nI_add]
section OPS
variable {L : Nat} {xs : Nat → Int32} {d : Nat} {SI : (Nat → Nat → Int32) → (Nat → Nat → Int64) → Prop}
theorem pairs_of {h : xm_H} {t : Nat} (hw : rl_wf (h.1 83)) (hli : rl_lin (h.1 t) (h.1 (t + 1)) (h.1 (t + 2)) (h.1 (t + 3)) (h.1 (t + 4)) (h.1 (t + 5)) (h.1 (t + 6)) (h.1 (t + 7)) (h.1 83)) : ∃ c, c ≤ 4 ∧ h.1 t 10 = nI c ∧ h.1 83 20 = nI c ∧ (h.1 83 22 = 0 → c = 0) ∧ (∀ j, j < c → h.1 (t + 5) j = h.1 83 (36 + 2 * j) ∧ h.1 (t + 6) j = h.1 83 (37 + 2 * j) ∧ ∃ a b, a ≤ 99 ∧ b ≤ 999 ∧ h.1 83 (36 + 2 * j) = nI a ∧ h.1 83 (37 + 2 * j) = nI b) := by
  obtain ⟨-, hz, -, -, -, -, -, -, ⟨c, hc, e20, hcs⟩, -⟩ := hw
  obtain ⟨-, -, -, -, -, -, -, -, -, -, l10, -, -, -, -, -, l16, -⟩ := hli
  refine ⟨c, hc, l10.trans e20, e20, fun h0 => ?_, fun j hj => ?_⟩
  · have := hz h0 20 (by omega)
    rw [e20, show (0 : Int32) = nI 0 from rfl, nI_eq (by omega) (by omega)] at this
    exact this
  · obtain ⟨⟨p, -, hp, ep⟩, ⟨q, -, hq, eq⟩⟩ := hcs j hj
    obtain ⟨a1, a2⟩ := l16 j (by rw [e20]; exact nI_lt hj (by omega)) (by omega)
    exact ⟨a1, a2, p, q, hp, hq, ep, eq⟩
theorem isPair_x {h : xm_H} {t c : Nat} {a : Int32} (hc : c ≤ 4) (e6 : h.1 t 10 = nI c) (e19 : h.1 83 20 = nI c) : ((∃ j, j < c ∧ a = nI j) → F_X10_isPair h t a = 1 ∧ F_X11_isPair h t a = 1) ∧ ((¬ ∃ j, j < c ∧ a = nI j) → F_X10_isPair h t a = 0 ∧ F_X11_isPair h t a = 0) := by
  unfold F_X10_isPair F_X11_isPair
  rw [e6, e19]
  constructor
  · rintro ⟨j, hj, rfl⟩
    exact ⟨x_cnt_y hj (by omega), cnt_y hj (by omega)⟩
  · intro hj
    exact ⟨x_cnt_n (by omega) hj, cnt_n (by omega) hj⟩
theorem sfs_of {h : xm_H} {t p k : Nat} (hp : p < 4) (hk : k ≤ 999) (e5 : h.1 (t + 5) p = h.1 83 (36 + 2 * p)) (e6 : h.1 (t + 6) p = h.1 83 (37 + 2 * p)) : F_X0_secondsForSheet h t (nI p) (nI k) = h.1 83 (36 + 2 * p) + h.1 83 (37 + 2 * p) / nI (k + 1) := by
  unfold F_X0_secondsForSheet
  rw [if_neg (nI_pos (by omega)), if_neg (show ¬ Int32.ofNat 4 ≤ nI p from nI_ge (b := 4) (by omega) (by omega)), if_neg (nI_pos (by omega)), if_pos (show nI k ≤ (999 : Int32) from nI_le (b := 999) (by omega) (by omega)), nI_clamp (by omega), e5, e6, nI_1]
theorem v_learnX {h : xm_H} {t p n : Nat} (hR : h.2.2 = xm_R0 t) (ht : t = 5 ∨ t = 13) (hp : p < 4) (hn : n ≤ 1000) (e5 : h.1 (t + 5) p = h.1 83 (36 + 2 * p)) (e6 : h.1 (t + 6) p = h.1 83 (37 + 2 * p)) : xm_V (xm_X0 L xs) xm_P (d + 8) 155 [.ref t, .int (nI p), .int (nI n)] h (some (.int (lsm (h.1 83 (36 + 2 * p)) (h.1 83 (37 + 2 * p)) n))) h := by
  have loop : ∀ k i, k + i = n → xm_E (xm_X0 L xs) xm_P (d + 7) co_X0_secondsForSheets 4 [some (.ref t), some (.int (nI p)), some (.int (nI n)), some (.int (lsm (h.1 83 (36 + 2 * p)) (h.1 83 (37 + 2 * p)) i)), some (.int (nI i))] [] h (some (.int (lsm (h.1 83 (36 + 2 * p)) (h.1 83 (37 + 2 * p)) n))) h := by
    intro k
    induction k with
    | zero =>
      intro i hk
      have hic : i = n := by omega
      subst hic
      exact s_X0_secondsForSheets_4_0 (d := d) ht (nI_le (by omega) (by omega))
    | succ k ih =>
      intro i hk
      refine s_X0_secondsForSheets_4_1 (d := d) hR ht (nI_ge (by omega) (by omega)) ?_
      rw [sfs_of hp (by omega) e5 e6, nI_1]
      exact ih (i + 1) (by omega)
  exact v_X0_secondsForSheets (d := d + 7) (s_X0_secondsForSheets_0_0 (d := d) ht (loop n 0 (by omega)))
theorem v_learnM {h : xm_H} {t p n : Nat} (hR : h.2.2 = xm_R0 t) (ht : t = 5 ∨ t = 13) (hp : p ≤ 4) (hn : n ≤ 1000) : xm_V (xm_X0 L xs) xm_P (d + 9) 312 [.ref 82, .int (nI p), .int (nI n)] h (some (.int (lsm (h.1 83 (36 + 2 * p)) (h.1 83 (37 + 2 * p)) n))) h := by
  have loop : ∀ k i, k + i = n → xm_E (xm_X0 L xs) xm_P (d + 7) co_X11_learnBy 4 [some (.ref 82), some (.int (h.1 83 (36 + 2 * p))), some (.int (h.1 83 (37 + 2 * p))), some (.int (nI n)), some (.int (lsm (h.1 83 (36 + 2 * p)) (h.1 83 (37 + 2 * p)) i)), some (.int (nI i))] [] h (some (.int (lsm (h.1 83 (36 + 2 * p)) (h.1 83 (37 + 2 * p)) n))) h := by
    intro k
    induction k with
    | zero =>
      intro i hk
      have hic : i = n := by omega
      subst hic
      exact s_X11_learnBy_4_0 (d := d) (nI_le (by omega) (by omega))
    | succ k ih =>
      intro i hk
      refine s_X11_learnBy_4_1 (d := d) (nI_ge (by omega) (by omega)) (by rw [nI_1]; exact nI_ne0 (by omega) (by omega)) ?_
      rw [nI_1]
      exact ih (i + 1) (by omega)
  have V := v_X11_learnBy (d := d + 7) (s_X11_learnBy_0_0 (d := d) (loop n 0 (by omega)))
  refine v_X11_learnOf (d := d + 8) (s_X11_learnOf_0_0 (d := d + 1) hR ht (g_36 hp) (g_37 hp) ?_)
  rw [ix_37, ix_36, nI_clamp (by omega), nI_clamp (by omega)]
  exact V
theorem op_learn (a b : Int32) : xm_opi (xm_X0 L xs) (d + 20) (Rel SI) 153 310 [.int a, .int b] := by
  intro h hr
  obtain ⟨t, ht, hR, hw, hli, hwk⟩ := hr.opn
  obtain ⟨c, hc, e6, e19, hz, hcs⟩ := pairs_of hw hli
  have hi := isPair_x (h := h) (t := t) (a := a) hc e6 e19
  have n0 : ¬ (1 : Int32) = 0 := by decide
  by_cases hb : ∃ j, j < c ∧ a = nI j
  · have m := hi.1 hb
    obtain ⟨j, hj, rfl⟩ := hb
    obtain ⟨b1, b2, -⟩ := hcs j hj
    by_cases hn : nb b 0 999
    · have m2 := (in_0_999 b).1 hn
      obtain ⟨n, -, hn, rfl⟩ := hn
      exact ⟨_, _, _, v_X10_learn (d := d + 19) (s_X10_learn_0_2 (d := d + 12) hR ht (by rw [m.1]; exact n0) (nI_pos (by omega)) (nI_le (b := 999) (by omega) (by omega)) (v_learnX (d := d + 11) hR ht (by omega) (by omega) b1 b2)), v_X11_learn (d := d + 19) (s_X11_learn_0_2 (d := d + 12) hR ht (by rw [m.2]; exact n0) (by rw [m2]; exact n0) (v_learnM (d := d + 10) hR ht (by omega) (by omega))), hr⟩
    · have V2 := v_X11_learn (d := d + 19) (s_X11_learn_0_1 (L := L) (xs := xs) (d := d + 12) hR ht (by rw [m.2]; exact n0) ((in_0_999 b).2 hn))
      by_cases h0 : b < 0
      · exact ⟨_, _, _, v_X10_learn (d := d + 19) (s_X10_learn_0_1 (d := d + 12) hR ht (by rw [m.1]; exact n0) h0), V2, hr⟩
      · refine ⟨_, _, _, v_X10_learn (d := d + 19) (s_X10_learn_0_3 (d := d + 12) hR ht (by rw [m.1]; exact n0) h0 ?_), V2, hr⟩
        obtain ⟨n, hn', rfl⟩ := nI_of h0
        have := nb_nat hn' (by omega) hn
        exact nI_ge (a := 999) (by omega) (by omega)
  · have m := hi.2 hb
    exact ⟨_, _, _, v_X10_learn (d := d + 19) (s_X10_learn_0_0 (d := d + 12) hR ht m.1), v_X11_learn (d := d + 19) (s_X11_learn_0_0 (d := d + 12) hR ht m.2), hr⟩
theorem op_skilled (a b : Int32) : xm_opi (xm_X0 L xs) (d + 20) (Rel SI) 157 314 [.int a, .int b] := by
  intro h hr
  obtain ⟨t, ht, hR, hw, hli, hwk⟩ := hr.opn
  obtain ⟨c, hc, e6, e19, hz, hcs⟩ := pairs_of hw hli
  have hi := isPair_x (h := h) (t := t) (a := a) hc e6 e19
  have n0 : ¬ (1 : Int32) = 0 := by decide
  by_cases hb : ∃ j, j < c ∧ a = nI j
  · have m := hi.1 hb
    obtain ⟨j, hj, rfl⟩ := hb
    obtain ⟨b1, b2, -⟩ := hcs j hj
    have loop : ∀ k i, k + i = 999 → ∃ r : Int32, xm_E (xm_X0 L xs) xm_P (d + 19) co_X10_skilled 8 [some (.ref 0), some (.int (nI j)), some (.int b), some (.int (nI i))] [] h (some (.int r)) h ∧ xm_E (xm_X0 L xs) xm_P (d + 19) co_X11_skilled 8 [some (.ref 82), some (.int (nI j)), some (.int b), some (.int (nI i))] [] h (some (.int r)) h := by
      intro k
      induction k with
      | zero =>
        intro i hk
        have hic : i = 999 := by omega
        subst hic
        exact ⟨-1, s_X10_skilled_8_0 (d := d + 12) (by decide), s_X11_skilled_8_0 (d := d + 12) (by decide)⟩
      | succ k ih =>
        intro i hk
        have c9 : ¬ (999 : Int32) ≤ nI i := nI_ge (b := 999) (by omega) (by omega)
        have e1 := sfs_of (h := h) (t := t) (p := j) (k := i) (by omega) (by omega) b1 b2
        have e2 : (h.1 83 (((36 : Int32) + ((2 : Int32) * nI j)).toNatClampNeg)) + ((h.1 83 ((((36 : Int32) + ((2 : Int32) * nI j)) + (1 : Int32)).toNatClampNeg)) / (nI i + (1 : Int32))) = h.1 83 (36 + 2 * j) + h.1 83 (37 + 2 * j) / nI (i + 1) := by
          rw [ix_37, ix_36, nI_clamp (by omega), nI_clamp (by omega), nI_1]
        by_cases hq : b < h.1 83 (36 + 2 * j) + h.1 83 (37 + 2 * j) / nI (i + 1)
        · obtain ⟨r, E1, E2⟩ := ih (i + 1) (by omega)
          refine ⟨r, s_X10_skilled_8_1 (d := d + 12) hR ht c9 (by rw [e1]; exact hq) (by rw [nI_1]; exact E1), s_X11_skilled_8_1 (d := d + 12) hR ht c9 (g_36 (by omega)) (g_37 (by omega)) (by rw [nI_1]; exact nI_ne0 (by omega) (by omega)) (by rw [e2]; exact hq) (by rw [nI_1]; exact E2)⟩
        · exact ⟨nI i, s_X10_skilled_8_2 (d := d + 12) hR ht c9 (by rw [e1]; exact hq), s_X11_skilled_8_2 (d := d + 12) hR ht c9 (g_36 (by omega)) (g_37 (by omega)) (by rw [nI_1]; exact nI_ne0 (by omega) (by omega)) (by rw [e2]; exact hq)⟩
    obtain ⟨r, E1, E2⟩ := loop 999 0 (by omega)
    exact ⟨_, _, _, v_X10_skilled (d := d + 19) (s_X10_skilled_0_1 (d := d + 12) hR ht (by rw [m.1]; exact n0) E1), v_X11_skilled (d := d + 19) (s_X11_skilled_0_1 (d := d + 12) hR ht (by rw [m.2]; exact n0) E2), hr⟩
  · have m := hi.2 hb
    exact ⟨_, _, _, v_X10_skilled (d := d + 19) (s_X10_skilled_0_0 (d := d + 12) hR ht m.1), v_X11_skilled (d := d + 19) (s_X11_skilled_0_0 (d := d + 12) hR ht m.2), hr⟩
theorem op_soonest (a : Int32) : xm_opi (xm_X0 L xs) (d + 20) (Rel SI) 158 315 [.int a] := by
  intro h hr
  obtain ⟨t, ht, hR, hw, hli, hwk⟩ := hr.opn
  have n0 : ¬ (1 : Int32) = 0 := by decide
  by_cases hn : h.1 83 22 = 0
  · have q := ln_0 (t := t) hli.1 hn
    exact ⟨_, _, _, v_X10_soonest (d := d + 19) (s_X10_soonest_0_3 (d := d + 12) hR ht (by rw [q.1]; exact n0)), v_X11_soonest (d := d + 19) (s_X11_soonest_0_0 (d := d + 12) hR ht q.2), hr⟩
  · have q := ln_1 (t := t) hli.1 hw.1 hn
    by_cases hb : nb a 1 999
    · have m2 := (in_1_999 a).1 hb
      obtain ⟨n, hn1, hn9, rfl⟩ := hb
      obtain ⟨c, hc, e6, e19, hz, hcs⟩ := pairs_of hw hli
      have hv : ∀ p, p < c → ∃ v, v < 2000000 ∧ lsm (h.1 83 (36 + 2 * p)) (h.1 83 (37 + 2 * p)) n = nI v := by
        intro p hp
        obtain ⟨-, -, x, y, hx, hy, ex, ey⟩ := hcs p hp
        obtain ⟨v, hv, e⟩ := lsm_le hx hy n (by omega)
        exact ⟨v, by omega, by rw [ex, ey]; exact e⟩
      have loop : ∀ k i b, k + i = c → b < i → ∀ (o5 : Option Value), ∃ r : Int32, xm_E (xm_X0 L xs) xm_P (d + 19) co_X10_soonest 18 [some (.ref 0), some (.int (nI n)), some (.int (nI b)), some (.int (lsm (h.1 83 (36 + 2 * b)) (h.1 83 (37 + 2 * b)) n)), some (.int (nI i)), o5] [] h (some (.int r)) h ∧ xm_E (xm_X0 L xs) xm_P (d + 19) co_X11_soonest 15 [some (.ref 82), some (.int (nI n)), some (.int (nI b)), some (.int (nI i))] [] h (some (.int r)) h := by
        intro k
        induction k with
        | zero =>
          intro i b hk hbi o5
          have hic : i = c := by omega
          subst hic
          exact ⟨nI b, s_X10_soonest_18_0 (d := d + 12) hR ht (by rw [e6]; exact nI_le (by omega) (by omega)), s_X11_soonest_15_0 (d := d + 12) hR ht (by rw [e19]; exact nI_le (by omega) (by omega))⟩
        | succ k ih =>
          intro i b hk hbi o5
          have c1 : ¬ (h.1 t 10 ≤ nI i) := by rw [e6]; exact nI_ge (by omega) (by omega)
          have c2 : ¬ (h.1 83 20 ≤ nI i) := by rw [e19]; exact nI_ge (by omega) (by omega)
          have c3 : ¬ nI b = (-1 : Int32) := by
            have := nj_n1 (a := b) (k := 1) (by omega) (by omega) (by omega)
            exact this.mp
          obtain ⟨b1, b2, -⟩ := hcs i (by omega)
          have VX := v_learnX (L := L) (xs := xs) (d := d + 11) (n := n) hR ht (by omega) (by omega) b1 b2
          have VM := v_learnM (L := L) (xs := xs) (d := d + 10) (p := i) (n := n) hR ht (by omega) (by omega)
          have VB := v_learnM (L := L) (xs := xs) (d := d + 10) (p := b) (n := n) hR ht (by omega) (by omega)
          by_cases hq : lsm (h.1 83 (36 + 2 * b)) (h.1 83 (37 + 2 * b)) n ≤ lsm (h.1 83 (36 + 2 * i)) (h.1 83 (37 + 2 * i)) n
          · obtain ⟨r, E1, E2⟩ := ih (i + 1) b (by omega) (by omega) (some (.int (lsm (h.1 83 (36 + 2 * i)) (h.1 83 (37 + 2 * i)) n)))
            exact ⟨r, s_X10_soonest_18_1 (d := d + 12) hR ht c1 VX hq (by rw [nI_1]; exact E1), s_X11_soonest_15_2 (d := d + 12) hR ht c2 c3 VM VB hq (by rw [nI_1]; exact E2)⟩
          · obtain ⟨r, E1, E2⟩ := ih (i + 1) i (by omega) (by omega) (some (.int (lsm (h.1 83 (36 + 2 * i)) (h.1 83 (37 + 2 * i)) n)))
            exact ⟨r, s_X10_soonest_18_2 (d := d + 12) hR ht c1 VX hq (by rw [nI_1]; exact E1), s_X11_soonest_15_3 (d := d + 12) hR ht c2 c3 VM VB hq (by rw [nI_1]; exact E2)⟩
      have start : ∃ r : Int32, xm_E (xm_X0 L xs) xm_P (d + 19) co_X10_soonest 18 [some (.ref 0), some (.int (nI n)), some (.int (-1 : Int32)), some (.int (2147483647 : Int32)), some (.int (0 : Int32)), none] [] h (some (.int r)) h ∧ xm_E (xm_X0 L xs) xm_P (d + 19) co_X11_soonest 15 [some (.ref 82), some (.int (nI n)), some (.int (-1 : Int32)), some (.int (0 : Int32))] [] h (some (.int r)) h := by
        by_cases hz : c = 0
        · subst hz
          exact ⟨-1, s_X10_soonest_18_0 (d := d + 12) hR ht (by rw [e6]; decide), s_X11_soonest_15_0 (d := d + 12) hR ht (by rw [e19]; decide)⟩
        · obtain ⟨b1, b2, -⟩ := hcs 0 (by omega)
          obtain ⟨v, hv, ev⟩ := hv 0 (by omega)
          obtain ⟨r, E1, E2⟩ := loop (c - 1) 1 0 (by omega) (by omega) (some (.int (lsm (h.1 83 (36 + 2 * 0)) (h.1 83 (37 + 2 * 0)) n)))
          have VX := v_learnX (L := L) (xs := xs) (d := d + 11) (p := 0) (n := n) hR ht (by omega) (by omega) b1 b2
          exact ⟨r, s_X10_soonest_18_2 (d := d + 12) hR ht (by rw [e6]; exact nI_nle (by omega) (by omega)) VX (by rw [ev]; exact nI_ge (b := 2147483647) (by omega) (by omega)) E1, s_X11_soonest_15_1 (d := d + 12) hR ht (by rw [e19]; exact nI_nle (by omega) (by omega)) rfl E2⟩
      obtain ⟨r, E1, E2⟩ := start
      exact ⟨_, _, _, v_X10_soonest (d := d + 19) (s_X10_soonest_0_1 (d := d + 12) hR ht q.1 (nI_nlt (b := 1) (by omega) (by omega)) (nI_le (b := 999) (by omega) (by omega)) E1), v_X11_soonest (d := d + 19) (s_X11_soonest_0_2 (d := d + 12) hR ht (by rw [q.2]; exact n0) (by rw [m2]; exact n0) E2), hr⟩
    · have V2 := v_X11_soonest (d := d + 19) (s_X11_soonest_0_1 (L := L) (xs := xs) (d := d + 12) hR ht (by rw [q.2]; exact n0) ((in_1_999 a).2 hb))
      by_cases h1 : a < 1
      · exact ⟨_, _, _, v_X10_soonest (d := d + 19) (s_X10_soonest_0_0 (d := d + 12) hR ht q.1 h1), V2, hr⟩
      · refine ⟨_, _, _, v_X10_soonest (d := d + 19) (s_X10_soonest_0_2 (d := d + 12) hR ht q.1 h1 ?_), V2, hr⟩
        rcases nj_or a with h0 | ⟨j, hj, rfl⟩
        · exact absurd ((ng_lt h0 (k := 1) (by omega)).mpr trivial) h1
        · have h2 := nb_nat hj (by omega) hb
          have h3 : 1 ≤ j := by
            by_cases z : 1 ≤ j
            · exact z
            · exact absurd (nI_lt (a := j) (b := 1) (by omega) (by omega)) h1
          exact nI_ge (a := 999) (by omega) (by omega)
theorem st_do_A {room a : Nat} {s s' : St} (hd : st_do room a s = some s') : s'.1 * s'.2.1 ≤ s.1 * s.2.1 := by
  obtain ⟨l, w, e, f, z⟩ := s
  have q2' : l * (w / 2) ≤ l * w := Nat.mul_le_mul_left _ (Nat.div_le_self _ _)
  have q3' : l * (w / 3) ≤ l * w := Nat.mul_le_mul_left _ (Nat.div_le_self _ _)
  have q4' : (l / 2) * w ≤ l * w := Nat.mul_le_mul_right _ (Nat.div_le_self _ _)
  have q5' : w * l ≤ l * w := Nat.le_of_eq (Nat.mul_comm _ _)
  unfold st_do at hd
  simp only at hd
  repeat' split at hd
  all_goals first | cases hd | skip
  all_goals (simp only; first | exact Nat.le_refl _ | exact q2' | exact q3' | exact q4' | exact q5')
theorem rp_A {w : Nat → Int32} : ∀ n s, rp w n = some s → s.1 * s.2.1 ≤ (w 0).toNatClampNeg * (w 1).toNatClampNeg
  | 0, s, e => by
    simp only [rp, Option.some.injEq] at e
    subst e
    exact Nat.le_refl _
  | n + 1, s, e => by
    cases hq : rp w n with
    | none => simp only [rp, hq, Option.bind] at e; cases e
    | some s1 =>
      have hk := rp_A n s1 hq
      simp only [rp, hq, Option.bind] at e
      exact Nat.le_trans (st_do_A e) hk
/-- how thick it is now -/
theorem thick_of {h : xm_H} {t c : Nat} {s : St} (hw : rl_wf (h.1 83)) (hn : ¬ h.1 83 22 = 0) (l1 : h.1 t 1 = h.1 83 0) (l2 : h.1 t 2 = h.1 83 1) (l3 : h.1 t 3 = h.1 83 2) (hK : st_K s) (hs : rp (h.1 83) c = some s) (e3 : h.1 3 3 = st_P s) : ∃ v, 0 < v ∧ v ≤ 100000 ∧ F_X0_thicknessOf h t (h.1 3 3) = nI v ∧ (∀ h' : xm_H, h'.1 83 = h.1 83 → F_X11_layersOf h' t (st_M s) * (h'.1 83 2) = nI v) := by
  obtain ⟨h0, h1, h2, -⟩ := hw.2.2.1 hn
  obtain ⟨a, ha1, ha2, ea⟩ := h0
  obtain ⟨b, hb1, hb2, eb⟩ := h1
  obtain ⟨k, hk1, hk2, ek⟩ := h2
  have hA := rp_A c s hs
  rw [ea, eb, nI_clamp (by omega), nI_clamp (by omega)] at hA
  have hp := ar_pos hK
  have hab : a * b ≤ 48 * 48 := Nat.mul_le_mul ha2 hb2
  have hq1 : 1 ≤ a * b / (s.1 * s.2.1) := Nat.div_pos hA hp.1
  have hq2 : a * b / (s.1 * s.2.1) ≤ 48 * 48 := Nat.le_trans (Nat.div_le_self _ _) hab
  have hq3 : a * b / (s.1 * s.2.1) * k ≤ 48 * 48 * 9 := Nat.mul_le_mul hq2 hk2
  refine ⟨a * b / (s.1 * s.2.1) * k, Nat.mul_pos hq1 hk1, by omega, ?_, ?_⟩
  · unfold F_X0_thicknessOf
    rw [e3, lay_x hK l1 l2, l3, ea, eb, ek, nm_mul, nm_div (by omega) (by omega), nm_mul]
  · intro h' e83
    rw [lay_m hK, e83, ea, eb, ek, nm_mul, nm_div (by omega) (by omega), nm_mul]
theorem v_high {h : xm_H} {t c : Nat} {s : St} {x : Int32} (hR : h.2.2 = xm_R0 t) (ht : t = 5 ∨ t = 13) (hK : st_K s) (VN : xm_V (xm_X0 L xs) xm_P (d + 9) 218 [.ref 82] h (some (.int (st_M s))) (rf_n h)) (hx : F_X11_layersOf (rf_n h) t (st_M s) * ((rf_n h).1 83 2) = x) : xm_V (xm_X0 L xs) xm_P (d + 10) 305 [.ref 82] h (some (.int x)) (rf_n h) := by
  have V := v_X11_highNow (d := d + 9) (s_X11_highNow_0_0 (d := d + 2) ht VN (ar_n0 hK) hR)
  rw [hx] at V
  exact V
theorem op_fits : xm_opi (xm_X0 L xs) (d + 20) (Rel SI) 145 304 [] := by
  intro h hr
  obtain ⟨t, ht, hR, hw, hli, hwk⟩ := hr.opn
  have V1 := e_X10_fits (L := L) (xs := xs) (d := d + 16) hR ht
  unfold F_X10_fits at V1
  have n0 : ¬ (1 : Int32) = 0 := by decide
  by_cases hn : h.1 83 22 = 0
  · have q := ln_0 (t := t) hli.1 hn
    rw [q.1, if_neg n0] at V1
    exact ⟨_, _, _, V1, v_X11_fits (d := d + 19) (s_X11_fits_0_0 (d := d + 12) hR ht q.2), hr⟩
  · have q := ln_1 (t := t) hli.1 hw.1 hn
    have l9 : h.1 t 9 = h.1 83 18 := hli.2.2.2.2.2.2.2.2.2.1
    rw [q.1, if_pos rfl, l9] at V1
    by_cases hp : h.1 83 18 = 0
    · rw [if_pos hp] at V1
      exact ⟨_, _, _, V1, v_X11_fits (d := d + 19) (s_X11_fits_0_1 (d := d + 12) hR ht (by rw [q.2]; exact n0) hp), hr⟩
    · obtain ⟨c, s, rm, hc, e23, hact, h0, h1, h3, hs, hK, er, hrm, e4, h14, e2, e3, esec, hac⟩ := told_of hw hli hwk hn
      have VN := v_now (L := L) (xs := xs) (d := d + 9) hR ht hc e23 hact h0 h1 h3 hs
      obtain ⟨v, v1, v2, ex, em⟩ := thick_of hw hn hli.2.1 hli.2.2.1 hli.2.2.2.1 hK hs e3
      have VH := v_high (L := L) (xs := xs) (d := d + 9) (c := c) hR ht hK VN (em _ (rf_n83 h))
      rw [if_neg hp, ex, if_pos (show (0 : Int32) < nI v from nI_lt (a := 0) v1 (by omega))] at V1
      exact ⟨_, _, _, V1, v_X11_fits (d := d + 19) (s_X11_fits_0_2 (d := d + 12) hR ht (by rw [q.2]; exact n0) hp VH (nI_ne0 v1 (by omega))), hr.rf_n⟩
theorem op_thin : xm_opi (xm_X0 L xs) (d + 20) (Rel SI) 152 309 [] := by
  intro h hr
  obtain ⟨t, ht, hR, hw, hli, hwk⟩ := hr.opn
  have n0 : ¬ (1 : Int32) = 0 := by decide
  have l9 : h.1 t 9 = h.1 83 18 := hli.2.2.2.2.2.2.2.2.2.1
  by_cases hn : h.1 83 22 = 0
  · have q := ln_0 (t := t) hli.1 hn
    have V1 := e_X10_thin (L := L) (xs := xs) (d := d + 16) hR ht (fun z => absurd (z.symm.trans q.1) (by decide))
    unfold F_X10_thin at V1
    rw [q.1, if_neg n0] at V1
    exact ⟨_, _, _, V1, v_X11_thin (d := d + 19) (s_X11_thin_0_0 (d := d + 12) hR ht q.2), hr⟩
  · have q := ln_1 (t := t) hli.1 hw.1 hn
    obtain ⟨c, s, rm, hc, e23, hact, h0, h1, h3, hs, hK, er, hrm, e4, h14, e2, e3, esec, hac⟩ := told_of hw hli hwk hn
    have VN := v_now (L := L) (xs := xs) (d := d + 9) hR ht hc e23 hact h0 h1 h3 hs
    obtain ⟨v, v1, v2, ex, em⟩ := thick_of hw hn hli.2.1 hli.2.2.1 hli.2.2.2.1 hK hs e3
    have VH := v_high (L := L) (xs := xs) (d := d + 9) (c := c) hR ht hK VN (em _ (rf_n83 h))
    obtain ⟨pr, -, hpr, epr⟩ := hw.2.2.2.2.2.2.1
    have hd1 : pr / v ≤ pr := Nat.div_le_self _ _
    have ed : (h.1 83 18) / nI v + (1 : Int32) = nI (pr / v + 1) := by rw [epr, nm_div (by omega) (by omega), nI_1]
    have V1 := e_X10_thin (L := L) (xs := xs) (d := d + 16) hR ht (fun _ _ _ => by rw [l9, ex, ed]; exact nI_ne0 (Nat.succ_pos _) (by omega))
    unfold F_X10_thin at V1
    rw [q.1, if_pos rfl, l9] at V1
    by_cases hp : h.1 83 18 = 0
    · rw [if_pos hp] at V1
      exact ⟨_, _, _, V1, v_X11_thin (d := d + 19) (s_X11_thin_0_1 (d := d + 12) hR ht (by rw [q.2]; exact n0) hp), hr⟩
    · rw [if_neg hp, ex, if_pos (show (0 : Int32) < nI v from nI_lt (a := 0) v1 (by omega)), ed] at V1
      by_cases hz : (h.1 83 18) / nI (pr / v + 1) = (0 : Int32)
      · rw [if_pos hz] at V1
        exact ⟨_, _, _, V1, v_X11_thin (d := d + 19) (s_X11_thin_0_2 (d := d + 12) hR ht (by rw [q.2]; exact n0) hp VH hR (nI_ne0 v1 (by omega)) (by rw [rf_n83, ed]; exact nI_ne0 (Nat.succ_pos _) (by omega)) (by rw [rf_n83, ed]; exact hz)), hr.rf_n⟩
      · rw [if_neg hz] at V1
        have V2 := v_X11_thin (d := d + 19) (s_X11_thin_0_3 (L := L) (xs := xs) (d := d + 12) hR ht (by rw [q.2]; exact n0) hp VH hR (nI_ne0 v1 (by omega)) (by rw [rf_n83, ed]; exact nI_ne0 (Nat.succ_pos _) (by omega)) (by rw [rf_n83, ed]; exact hz))
        rw [rf_n83, ed] at V2
        exact ⟨_, _, _, V1, V2, hr.rf_n⟩
end OPS
