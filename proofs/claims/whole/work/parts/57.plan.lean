/-! Plans followed. -/
/-- the numbers of a row, as naturals -/
def nuN (h : xm_H) (s i : Nat) : Nat := ((h.2.1 (54 + 2 * s) i).toInt32).toNatClampNeg
theorem nuN_of {h : xm_H} {s i n : Nat} (hn : n < 1048576) (e : h.2.1 (54 + 2 * s) i = lN n) : nuN h s i = n := by
  unfold nuN
  rw [e, lN_i, nI_clamp (by omega)]
/-- the class's trial behind an act -/
def hT (g : xm_H) (a : Nat) (s' : St) : xm_H := xm_si (xm_si (xm_si g 73 0 (st_P s')) 73 1 (g.1 73 1 + sc1 (g.1 83) a)) 73 2 (g.1 73 2 + 1)
theorem hT_q {g : xm_H} {a q : Nat} {s' : St} (hq : q ≠ 73) : (hT g a s').1 q = g.1 q := by
  unfold hT
  rw [xm_rn hq, xm_rn hq, xm_rn hq]
theorem hT_0 {g : xm_H} {a : Nat} {s' : St} : (hT g a s').1 73 0 = st_P s' := by
  unfold hT
  rw [xm_rk (by decide), xm_rk (by decide), xm_ra]
theorem hT_1 {g : xm_H} {a : Nat} {s' : St} : (hT g a s').1 73 1 = g.1 73 1 + sc1 (g.1 83) a := by
  unfold hT
  rw [xm_rk (by decide), xm_ra]
theorem hT_2 {g : xm_H} {a : Nat} {s' : St} : (hT g a s').1 73 2 = g.1 73 2 + 1 := xm_ra
theorem hT_3 {g : xm_H} {a : Nat} {s' : St} : (hT g a s').1 73 3 = g.1 73 3 := by
  unfold hT
  rw [xm_rk (by decide), xm_rk (by decide), xm_rk (by decide)]
/-- the trial begun -/
def hU (h : xm_H) : xm_H := xm_si (xm_si (xm_si (xm_si h 73 0 (h.1 3 3)) 73 1 (h.1 3 4)) 73 2 (0 : Int32)) 73 3 (0 : Int32)
theorem hU_q {h : xm_H} {q : Nat} (hq : q ≠ 73) : (hU h).1 q = h.1 q := by
  unfold hU
  rw [xm_rn hq, xm_rn hq, xm_rn hq, xm_rn hq]
theorem hU_0 {h : xm_H} : (hU h).1 73 0 = h.1 3 3 := by
  unfold hU
  rw [xm_rk (by decide), xm_rk (by decide), xm_rk (by decide), xm_ra]
theorem hU_1 {h : xm_H} : (hU h).1 73 1 = h.1 3 4 := by
  unfold hU
  rw [xm_rk (by decide), xm_rk (by decide), xm_ra]
theorem hU_2 {h : xm_H} : (hU h).1 73 2 = 0 := by
  unfold hU
  rw [xm_rk (by decide), xm_ra]
theorem hU_3 {h : xm_H} : (hU h).1 73 3 = 0 := xm_ra
section OPS
variable {L : Nat} {xs : Nat → Int32} {d : Nat} {SI : (Nat → Nat → Int32) → (Nat → Nat → Int64) → Prop}
theorem v_tbegin {h : xm_H} : xm_V (xm_X0 L xs) xm_P (d + 8) 72 [.ref 73, .ref 3] h none (hU h) := by
  have V := v_X7_begin (d := d + 7) (s_X7_begin_0_0 (L := L) (xs := xs) (d := d) (h := h))
  rw [xm_rn (show (3 : Nat) ≠ 73 by decide)] at V
  exact V
theorem v_try0 {g : xm_H} {t a rm : Nat} {s : St} (ht : t = 5 ∨ t = 13) (e0 : g.1 73 0 = st_P s) (hK : st_K s) (e4 : g.1 t 4 = nI rm) (hrm : rm ≤ 60) (ha : a ≤ 12) (hn : st_do rm a s = none) : xm_V (xm_X0 L xs) xm_P (d + 8) 73 [.ref 73, .ref t, .int (nI a)] g (some (.int 0)) g := by
  refine v_X7_tryAct (d := d + 7) (s_X7_tryAct_0_0 (d := d) ht ?_)
  rw [e0, e4, cx_possible hK ha (by omega), hn]
  rfl
theorem v_try1 {g : xm_H} {t a rm : Nat} {s s' : St} (hR : g.2.2 = xm_R0 t) (ht : t = 5 ∨ t = 13) (e0 : g.1 73 0 = st_P s) (hK : st_K s) (e4 : g.1 t 4 = nI rm) (hrm : rm ≤ 60) (ha : a ≤ 12) (h14 : ∀ k, k < 6 → g.1 (t + 2) k = g.1 83 (5 + k)) (hs : st_do rm a s = some s') : xm_V (xm_X0 L xs) xm_P (d + 8) 73 [.ref 73, .ref t, .int (nI a)] g (some (.int 1)) (hT g a s') := by
  have V := v_X7_tryAct (d := d + 7) (s_X7_tryAct_0_1 (L := L) (xs := xs) (d := d) (h := g) (l2 := nI a) hR ht (by
    rw [e0, e4, cx_possible hK ha (by omega), hs]
    exact one_ne0))
  rw [xk_of ha (fun k hk => by
    simp (disch := omega) only [xm_rn]
    exact h14 k hk)] at V
  simp (disch := omega) only [xm_rn, xm_ra, xm_rk] at V
  rw [e0, cx_folded hK ha hs] at V
  exact V
theorem lp_follow {h : xm_H} {t u m rm : Nat} (hR : h.2.2 = xm_R0 t) (ht : t = 5 ∨ t = 13) (u4 : u < 4) (hm : m ≤ 60) (hrm : rm ≤ 60) (e4 : h.1 t 4 = nI rm) (h14 : ∀ k, k < 6 → h.1 (t + 2) k = h.1 83 (5 + k)) (e3 : h.1 (53 + 2 * u) 3 = nI m) (hnu : ∀ i, i < m → nuN h u i ≤ 12 ∧ h.2.1 (54 + 2 * u) i = lN (nuN h u i)) : ∀ k i (g : xm_H) (x : St × Int32 × Nat), k + i = m → g.2 = h.2 → (∀ q, q ≠ 73 → g.1 q = h.1 q) → g.1 73 0 = st_P x.1 → st_K x.1 → g.1 73 1 = x.2.1 → g.1 73 2 = nI x.2.2 → ∃ g', xm_E (xm_X0 L xs) xm_P (d + 8) co_X7_follow 5 [some (.ref 73), some (.ref 3), some (.ref (53 + 2 * u)), some (.int (nI i))] [] g none g' ∧ g'.2 = h.2 ∧ (∀ q, q ≠ 73 → g'.1 q = h.1 q) ∧ g'.1 73 0 = st_P (fol rm (h.1 83) (nuN h u) k i x).1 ∧ st_K (fol rm (h.1 83) (nuN h u) k i x).1 ∧ g'.1 73 1 = (fol rm (h.1 83) (nuN h u) k i x).2.1 ∧ g'.1 73 2 = nI (fol rm (h.1 83) (nuN h u) k i x).2.2 := by
  intro k
  induction k with
  | zero =>
    intro i g x hk a1 a2 a3 a4 a5 a6
    have hic : i = m := by omega
    subst hic
    exact ⟨g, s_X7_follow_5_0 (d := d + 1) (rw_sh u4) (by rw [a2 _ (by omega), e3]; exact nI_le (by omega) (by omega)), a1, a2, a3, a4, a5, a6⟩
  | succ k ih =>
    intro i g x hk a1 a2 a3 a4 a5 a6
    have gR : g.2.2 = xm_R0 t := by rw [a1]; exact hR
    have g83 : g.1 83 = h.1 83 := a2 83 (by decide)
    have ge3 : g.1 (53 + 2 * u) 3 = nI m := by rw [a2 _ (by omega), e3]
    have c1 : ¬ (g.1 (53 + 2 * u) 3 ≤ nI i) := by rw [ge3]; exact nI_ge (by omega) (by omega)
    have ge4 : g.1 t 4 = nI rm := by rw [a2 t (by omega)]; exact e4
    have V := v_at (L := L) (xs := xs) (d := d) gR u4 hm (show i < m by omega) ge3
    obtain ⟨hn12, en⟩ := hnu i (by omega)
    rw [show g.2.1 (54 + 2 * u) i = lN (nuN h u i) by rw [a1]; exact en] at V
    cases hs : st_do rm (nuN h u i) x.1 with
    | none =>
      have ef : fol rm (h.1 83) (nuN h u) (k + 1) i x = x := by simp only [fol, hs]
      rw [ef]
      refine ⟨g, ?_, a1, a2, a3, a4, a5, a6⟩
      have VT := v_try0 (L := L) (xs := xs) (d := d) ht a3 a4 ge4 hrm hn12 hs
      rw [← lN_i] at VT
      exact s_X7_follow_5_1 (d := d + 1) gR ht (rw_sh u4) c1 V VT rfl
    | some s' =>
      have ef : fol rm (h.1 83) (nuN h u) (k + 1) i x = fol rm (h.1 83) (nuN h u) k (i + 1) (s', x.2.1 + sc1 (h.1 83) (nuN h u i), x.2.2 + 1) := by simp only [fol, hs]
      rw [ef]
      have VT := v_try1 (L := L) (xs := xs) (d := d) gR ht a3 a4 ge4 hrm hn12 (fun k hk => by rw [a2 _ (by omega), g83]; exact h14 k hk) hs
      rw [← lN_i] at VT
      obtain ⟨g', b0, b⟩ := ih (i + 1) (hT g (nuN h u i) s') (s', x.2.1 + sc1 (h.1 83) (nuN h u i), x.2.2 + 1) (by omega) a1 (fun q hq => by rw [hT_q hq]; exact a2 q hq) hT_0 (st_do_K a4 hs hn12) (by rw [hT_1, a5, g83]) (by rw [hT_2, a6, nI_1])
      refine ⟨g', ?_, b⟩
      refine s_X7_follow_5_2 (d := d + 1) gR ht (rw_sh u4) c1 V VT one_ne0 ?_
      rw [nI_1]
      exact b0
/-- the reference's plan behind a move -/
def hV (z : xm_H) (a : Nat) (s' : St) : xm_H := xm_si (xm_si (xm_si z 82 17 (st_M s')) 82 18 (z.1 82 18 + sc1 (z.1 83) a)) 82 19 (z.1 82 19 + 1)
theorem hV_q {z : xm_H} {a q : Nat} {s' : St} (hq : q ≠ 82) : (hV z a s').1 q = z.1 q := by
  unfold hV
  rw [xm_rn hq, xm_rn hq, xm_rn hq]
theorem hV_17 {z : xm_H} {a : Nat} {s' : St} : (hV z a s').1 82 17 = st_M s' := by
  unfold hV
  rw [xm_rk (by decide), xm_rk (by decide), xm_ra]
theorem hV_18 {z : xm_H} {a : Nat} {s' : St} : (hV z a s').1 82 18 = z.1 82 18 + sc1 (z.1 83) a := by
  unfold hV
  rw [xm_rk (by decide), xm_ra]
theorem hV_19 {z : xm_H} {a : Nat} {s' : St} : (hV z a s').1 82 19 = z.1 82 19 + 1 := xm_ra
theorem hV_k {z : xm_H} {a j : Nat} {s' : St} (h1 : j < 17) : (hV z a s').1 82 j = z.1 82 j := by
  unfold hV
  rw [xm_rk (by omega), xm_rk (by omega), xm_rk (by omega)]
theorem lp_plans {h : xm_H} {t u m rm : Nat} (hR : h.2.2 = xm_R0 t) (ht : t = 5 ∨ t = 13) (u4 : u < 4) (hm : m ≤ 60) (hrm : rm ≤ 60) (e99 : h.1 99 u = nI m) (hnu : ∀ i, i < m → nuN h u i ≤ 9 ∧ h.2.1 101 (60 * u + i) = lN (nuN h u i)) : ∀ k i (z : xm_H) (x : St × Int32 × Nat) (o : Option Value), k + i = m → z.2 = h.2 → (∀ q, q ≠ 82 → z.1 q = h.1 q) → (∀ j, j < 15 → z.1 82 j = h.1 82 j) → z.1 82 15 = nI rm → z.1 82 16 = 0 → z.1 82 17 = st_M x.1 → st_K x.1 → z.1 82 18 = x.2.1 → z.1 82 19 = nI x.2.2 → ∃ z', xm_E (xm_X0 L xs) xm_P (d + 7) co_X11_plans 13 [some (.ref 82), some (.int (nI u)), some (.int (nI i)), o] [] z none z' ∧ z'.2 = h.2 ∧ (∀ q, q ≠ 82 → z'.1 q = h.1 q) ∧ (∀ j, j < 15 → z'.1 82 j = h.1 82 j) ∧ z'.1 82 17 = st_M (fol rm (h.1 83) (nuN h u) k i x).1 ∧ st_K (fol rm (h.1 83) (nuN h u) k i x).1 ∧ z'.1 82 18 = (fol rm (h.1 83) (nuN h u) k i x).2.1 ∧ z'.1 82 19 = nI (fol rm (h.1 83) (nuN h u) k i x).2.2 := by
  intro k
  induction k with
  | zero =>
    intro i z x o hk a1 a2 a2' a3 a4 a5 a6 a7 a8
    have hic : i = m := by omega
    subst hic
    exact ⟨z, s_X11_plans_13_0 (d := d) (by rw [a1]; exact hR) ht (g_sl u4) (by rw [a2 99 (by decide), nI_clamp (by omega), e99]; exact nI_le (by omega) (by omega)), a1, a2, a2', a5, a6, a7, a8⟩
  | succ k ih =>
    intro i z x o hk a1 a2 a2' a3 a4 a5 a6 a7 a8
    have zR : z.2.2 = xm_R0 t := by rw [a1]; exact hR
    have z83 : z.1 83 = h.1 83 := a2 83 (by decide)
    have c1 : ¬ (z.1 99 (nI u).toNatClampNeg ≤ nI i) := by rw [a2 99 (by decide), nI_clamp (by omega), e99]; exact nI_ge (by omega) (by omega)
    obtain ⟨hn9, en⟩ := hnu i (by omega)
    have hN : ∀ z' : xm_H, z'.2 = h.2 → (F_X11_numberAt z' t (nI u) (nI i)).toInt32 = nI (nuN h u i) := by
      intro z' hz'
      unfold F_X11_numberAt
      rw [ix_60, nI_clamp (by omega), hz', en, lN_i]
    cases hs : st_do rm (nuN h u i) x.1 with
    | none =>
      have ef : fol rm (h.1 83) (nuN h u) (k + 1) i x = x := by simp only [fol, hs]
      rw [ef]
      refine ⟨z, ?_, a1, a2, a2', a5, a6, a7, a8⟩
      refine s_X11_plans_13_1 (d := d) zR ht (g_sl u4) c1 (g_60 u4 (by omega)) ?_
      rw [hN z a1, a5]
      exact cm_movedN a6 hn9 a4 a3 (by omega) hs
    | some s' =>
      have ef : fol rm (h.1 83) (nuN h u) (k + 1) i x = fol rm (h.1 83) (nuN h u) k (i + 1) (s', x.2.1 + sc1 (h.1 83) (nuN h u i), x.2.2 + 1) := by simp only [fol, hs]
      rw [ef]
      have em : F_X11_moved z t (z.1 82 17) (nI (nuN h u i)) = st_M s' := by
        rw [a5]
        exact cm_moved a6 hn9 a4 a3 (by omega) hs
      obtain ⟨z', b0, b⟩ := ih (i + 1) (hV z (nuN h u i) s') (s', x.2.1 + sc1 (h.1 83) (nuN h u i), x.2.2 + 1) (some (.int (st_M s'))) (by omega) a1 (fun q hq => by rw [hV_q hq]; exact a2 q hq) (fun j hj => by rw [hV_k (by omega)]; exact a2' j hj) (by rw [hV_k (by omega)]; exact a3) (by rw [hV_k (by omega)]; exact a4) hV_17 (st_do_K a6 hs (by omega)) (by rw [hV_18, a7, z83]) (by rw [hV_19, a8, nI_1])
      refine ⟨z', ?_, b⟩
      refine s_X11_plans_13_2 (d := d) zR ht (g_sl u4) c1 (g_60 u4 (by omega)) ?_ ?_
      · rw [hN z a1, em]
        exact st_M_n1 (st_do_K a6 hs (by omega))
      · rw [hN z a1, em, hN (xm_si z 82 17 (st_M s')) a1, sk_of (by omega)]
        simp (disch := omega) only [xm_rn, xm_ra, xm_rk]
        rw [nI_1]
        exact b0
theorem v_plans {h : xm_H} {t u m rm c : Nat} {s : St} (hR : h.2.2 = xm_R0 t) (ht : t = 5 ∨ t = 13) (u4 : u < 4) (hm : m ≤ 60) (hrm : rm ≤ 60) (e99 : h.1 99 u = nI m) (hnu : ∀ i, i < m → nuN h u i ≤ 9 ∧ h.2.1 101 (60 * u + i) = lN (nuN h u i)) (hc : c ≤ 60) (e23 : h.1 83 23 = nI c) (hact : ∀ j, j < c → rl_in (h.1 83 (50 + j)) 0 12) (h0 : rl_in (h.1 83 0) 1 48) (h1 : rl_in (h.1 83 1) 1 48) (h3 : rl_in (h.1 83 3) 1 60) (hs : rp (h.1 83) c = some s) (hK : st_K s) (er : h.1 83 3 = nI rm) : ∃ z', xm_V (xm_X0 L xs) xm_P (d + 10) 255 [.ref 82, .int (nI u)] h none z' ∧ z'.2 = h.2 ∧ (∀ q, q ≠ 82 → z'.1 q = h.1 q) ∧ (∀ j, j < 15 → z'.1 82 j = h.1 82 j) ∧ z'.1 82 17 = st_M (fol rm (h.1 83) (nuN h u) m 0 (s, sc (h.1 83) c, 0)).1 ∧ st_K (fol rm (h.1 83) (nuN h u) m 0 (s, sc (h.1 83) c, 0)).1 ∧ z'.1 82 18 = (fol rm (h.1 83) (nuN h u) m 0 (s, sc (h.1 83) c, 0)).2.1 ∧ z'.1 82 19 = nI (fol rm (h.1 83) (nuN h u) m 0 (s, sc (h.1 83) c, 0)).2.2 := by
  have VN := v_now (L := L) (xs := xs) (d := d) hR ht hc e23 hact h0 h1 h3 hs
  let z1 : xm_H := xm_si (rf_n h) 82 17 (st_M s)
  have z83 : z1.1 83 = h.1 83 := by
    show (xm_si (rf_n h) 82 17 (st_M s)).1 83 = h.1 83
    rw [xm_rn (by decide), rf_n83]
  have VG := v_gone (L := L) (xs := xs) (d := d + 1) (h := z1) hR ht hc (by rw [z83]; exact e23) (by rw [z83]; exact hact)
  rw [z83] at VG
  have zk : ∀ j, j ≠ 17 → j ≠ 18 → j ≠ 19 → (xm_si (xm_si z1 82 18 (sc (h.1 83) c)) 82 19 (0 : Int32)).1 82 j = (rf_n h).1 82 j := fun j j1 j2 j3 => by
    rw [xm_rk j3, xm_rk j2]
    exact xm_rk j1
  obtain ⟨z', b0, b⟩ := lp_plans (L := L) (xs := xs) (d := d + 2) hR ht u4 hm hrm e99 hnu m 0 (xm_si (xm_si z1 82 18 (sc (h.1 83) c)) 82 19 (0 : Int32)) (s, sc (h.1 83) c, 0) none (by omega) rfl (fun q hq => by rw [xm_rn hq, xm_rn hq]; show (xm_si (rf_n h) 82 17 (st_M s)).1 q = h.1 q; rw [xm_rn hq, rf_nq h hq]) (fun j hj => by rw [zk j (by omega) (by omega) (by omega), rf_nk h (by omega) (by omega)]) (by rw [zk 15 (by decide) (by decide) (by decide), rf_n15]; exact er) (by rw [zk 16 (by decide) (by decide) (by decide), rf_n16]) (by rw [xm_rk (by decide), xm_rk (by decide)]; exact xm_ra) hK (by rw [xm_rk (by decide), xm_ra]) xm_ra
  exact ⟨z', v_X11_plans (d := d + 9) (s_X11_plans_0_0 (d := d + 2) VN VG b0), b⟩
/-- the trial and the plan, one behind the other -/
theorem op_follow {h : xm_H} {t u m : Nat} (hr : Rel SI h) (ht : t = 5 ∨ t = 13) (hR : h.2.2 = xm_R0 t) (hw : rl_wf (h.1 83)) (hli : rl_lin (h.1 t) (h.1 (t + 1)) (h.1 (t + 2)) (h.1 (t + 3)) (h.1 (t + 4)) (h.1 (t + 5)) (h.1 (t + 6)) (h.1 (t + 7)) (h.1 83)) (hwk : rl_wk (h.1 3) (h.1 4) (h.1 83)) (hn : ¬ h.1 83 22 = 0) (u4 : u < 4) (hm : m ≤ 60) (e3 : h.1 (53 + 2 * u) 3 = nI m) (e99 : h.1 99 u = nI m) (hnu : ∀ i, i < m → ∃ n, n < 10 ∧ h.2.1 (54 + 2 * u) i = lN n ∧ h.2.1 101 (60 * u + i) = lN n) : ∃ (g z : xm_H) (x : St × Int32 × Nat), xm_V (xm_X0 L xs) xm_P (d + 10) 71 [.ref 73, .ref 3, .ref (53 + 2 * u)] h none g ∧ xm_V (xm_X0 L xs) xm_P (d + 10) 255 [.ref 82, .int (nI u)] g none z ∧ g.2 = h.2 ∧ z.2 = h.2 ∧ (∀ q, q ≠ 73 → g.1 q = h.1 q) ∧ (∀ q, q ≠ 73 → q ≠ 82 → z.1 q = h.1 q) ∧ st_K x.1 ∧ g.1 73 0 = st_P x.1 ∧ g.1 73 1 = x.2.1 ∧ g.1 73 2 = nI x.2.2 ∧ z.1 82 17 = st_M x.1 ∧ z.1 82 18 = x.2.1 ∧ z.1 82 19 = nI x.2.2 ∧ Rel SI z := by
  obtain ⟨c, s, rm, hc, e23, hact, h0, h1, h3', hs, hK, er, hrm, e4, h14, e2, e33, esec, hac⟩ := told_of hw hli hwk hn
  have hnu1 : ∀ i, i < m → nuN h u i ≤ 9 ∧ h.2.1 (54 + 2 * u) i = lN (nuN h u i) ∧ h.2.1 101 (60 * u + i) = lN (nuN h u i) := fun i hi => by
    obtain ⟨n, n1, n2, n3⟩ := hnu i hi
    rw [nuN_of (by omega) n2]
    exact ⟨by omega, n2, n3⟩
  obtain ⟨g, b0, b1, b2, b3, b4, b5, b6⟩ := lp_follow (L := L) (xs := xs) (d := d + 1) hR ht u4 hm hrm e4 h14 e3 (fun i hi => ⟨by have := (hnu1 i hi).1; omega, (hnu1 i hi).2.1⟩) m 0 (hU h) (s, sc (h.1 83) c, 0) (by omega) rfl (fun q hq => hU_q hq) (by rw [hU_0, e33]) hK (by rw [hU_1, esec]) hU_2
  have g83 : g.1 83 = h.1 83 := b2 83 (by decide)
  have enu : nuN g u = nuN h u := by
    funext i
    unfold nuN
    rw [b1]
  have gR : g.2.2 = xm_R0 t := by rw [b1]; exact hR
  obtain ⟨z, c0, c1, c2, c3, c4, c5, c6, c7⟩ := v_plans (L := L) (xs := xs) (d := d) (h := g) (t := t) (u := u) (m := m) (rm := rm) (c := c) (s := s) gR ht u4 hm hrm (by rw [b2 99 (by decide)]; exact e99) (fun i hi => by rw [enu, b1]; exact ⟨(hnu1 i hi).1, (hnu1 i hi).2.2⟩) hc (by rw [g83]; exact e23) (by rw [g83]; exact hact) (by rw [g83]; exact h0) (by rw [g83]; exact h1) (by rw [g83]; exact h3') (by rw [g83]; exact hs) hK (by rw [g83]; exact er)
  rw [g83, enu] at c4 c6 c7
  refine ⟨g, z, _, v_X7_follow (d := d + 9) (s_X7_follow_0_0 (d := d + 2) (v_tbegin (d := d + 1)) b0), c0, b1, c1.trans b1, b2, fun q q1 q2 => by rw [c2 q q2, b2 q q1], b4, b3, b5, b6, c4, c6, c7, ?_⟩
  refine hr.frame (by rw [c1, b1]) (fun q hq => ?_) (fun q _ => by rw [c1, b1]) (fun j _ => ?_) (fun j hj => ?_)
  · have q1 : q ≠ 73 ∧ q ≠ 82 := by unfold rl_cell at hq; omega
    rw [c2 q q1.2, b2 q q1.1]
  · rw [c2 1 (by decide), b2 1 (by decide)]
  · rw [c3 j (by omega), b2 82 (by decide)]
theorem op_plan (a : Int32) : xm_opi (xm_X0 L xs) (d + 20) (Rel SI) 66 251 [.int a] := by
  intro h hr
  obtain ⟨t, ht, hR, hw, hli, hwk⟩ := hr.opn
  obtain ⟨r, hr3, VX, VM, hz⟩ := ask_of (L := L) (xs := xs) (d := d + 9) (a := a) (f := 0) (bx := 10) (B := 10) hr ht hR hw hli.1 rfl (by omega) (Or.inl ⟨rfl, rfl⟩)
  by_cases h0 : r = 0
  · subst h0
    obtain ⟨hn, s, m, s4, rfl, hm, e3, e99, hnu⟩ := hz rfl
    obtain ⟨g, z, x, F1, F2, g2, z2, gq, zq, xK, x0, x1, x2, y0, y1, y2, hr'⟩ := op_follow (L := L) (xs := xs) (d := d + 9) hr ht hR hw hli hwk hn s4 hm e3 e99 hnu
    have gR : g.2.2 = xm_R0 t := by rw [g2]; exact hR
    have W1 := v_X10_plan (d := d + 19) (s_X10_plan_0_0 (L := L) (xs := xs) (d := d + 12) ht VX rfl hR (g_sl s4) (rw_ref hR s4) F1 gR)
    have W2 := v_X11_plan (d := d + 19) (s_X11_plan_0_0 (L := L) (xs := xs) (d := d + 12) (VM g ⟨by rw [g2], by rw [g2]⟩ (gq 83 (by decide)) (gq 99 (by decide))) (by decide) F2)
    rw [x2] at W1
    rw [y2] at W2
    exact ⟨_, _, _, W1, W2, hr'⟩
  · have hneg : ¬ (0 : Int32) ≤ r := by
      rcases hr3 with z | z | z
      · exact absurd z h0
      · rw [z]; decide
      · rw [z]; decide
    exact ⟨_, _, _, v_X10_plan (d := d + 19) (s_X10_plan_0_1 (d := d + 12) VX h0), v_X11_plan (d := d + 19) (s_X11_plan_0_1 (d := d + 12) (VM h ⟨rfl, rfl⟩ rfl rfl) hneg), hr⟩
theorem op_after (a b : Int32) : xm_opi (xm_X0 L xs) (d + 20) (Rel SI) 74 256 [.int a, .int b] := by
  intro h hr
  obtain ⟨t, ht, hR, hw, hli, hwk⟩ := hr.opn
  have n0 : ¬ (1 : Int32) = 0 := by decide
  by_cases hv : nb b 0 7
  · have m1 := (x_isView b).1 hv
    have m2 : F_X11_isOfState b = 1 := (in_0_7 b).1 hv
    obtain ⟨r, hr3, VX, VM, hz⟩ := ask_of (L := L) (xs := xs) (d := d + 9) (a := a) (f := 0) (bx := 10) (B := 10) hr ht hR hw hli.1 rfl (by omega) (Or.inl ⟨rfl, rfl⟩)
    by_cases h0 : r = 0
    · subst h0
      obtain ⟨hn, s, m, s4, rfl, hm, e3, e99, hnu⟩ := hz rfl
      obtain ⟨g, z, x, F1, F2, g2, z2, gq, zq, xK, x0, x1, x2, y0, y1, y2, hr'⟩ := op_follow (L := L) (xs := xs) (d := d + 9) hr ht hR hw hli hwk hn s4 hm e3 e99 hnu
      have gR : g.2.2 = xm_R0 t := by rw [g2]; exact hR
      have zR : z.2.2 = xm_R0 t := by rw [z2]; exact hR
      obtain ⟨j, -, hj, rfl⟩ := hv
      have W1 := v_X10_after (d := d + 19) (s_X10_after_0_1 (L := L) (xs := xs) (d := d + 12) (l2 := nI j) ht (by rw [m1]; exact n0) VX rfl hR (g_sl s4) (rw_ref hR s4) F1 gR)
      have VM' := VM g ⟨by rw [g2], by rw [g2]⟩ (gq 83 (by decide)) (gq 99 (by decide))
      rw [← m2] at VM'
      have W2 := v_X11_after (d := d + 19) (s_X11_after_0_0 (L := L) (xs := xs) (d := d + 12) ht VM' (by decide) F2 (fun _ => by rw [y0]; exact ar_n0 xK) (fun _ => by rw [y0]; exact ar_n0 xK) zR)
      rw [x0, x1, view_eq (h' := z) (t' := t) hj xK (by rw [gq t (by omega), gq 83 (by decide)]; exact hli.2.1) (by rw [gq t (by omega), gq 83 (by decide)]; exact hli.2.2.1) (by rw [gq t (by omega), gq 83 (by decide)]; exact hli.2.2.2.1) (by rw [zq 83 (by decide) (by decide), gq 83 (by decide)])] at W1
      rw [y0, y1] at W2
      exact ⟨_, _, _, W1, W2, hr'⟩
    · have W1 := v_X10_after (d := d + 19) (s_X10_after_0_2 (L := L) (xs := xs) (d := d + 12) (l2 := b) (by rw [m1]; exact n0) VX h0)
      have VM' := VM h ⟨rfl, rfl⟩ rfl rfl
      rw [← m2] at VM'
      rcases hr3 with z | z | z
      · exact absurd z h0
      · subst z
        exact ⟨_, _, _, W1, v_X11_after (d := d + 19) (s_X11_after_0_2 (d := d + 12) VM' (by decide) (by decide)), hr⟩
      · subst z
        exact ⟨_, _, _, W1, v_X11_after (d := d + 19) (s_X11_after_0_1 (d := d + 12) VM' (by decide) (by decide)), hr⟩
  · have m1 := (x_isView b).2 hv
    have m2 : F_X11_isOfState b = 0 := (in_0_7 b).2 hv
    have VM' : xm_V (xm_X0 L xs) xm_P (d + 19) 252 [.ref 82, .int a, .int (F_X11_isOfState b), .int 0] h (some (.int (-2))) h := by
      rw [m2]
      exact ask0 (d := d + 11) ht hR hw hli.1
    exact ⟨_, _, _, v_X10_after (d := d + 19) (s_X10_after_0_0 (d := d + 12) m1), v_X11_after (d := d + 19) (s_X11_after_0_2 (d := d + 12) VM' (by decide) (by decide)), hr⟩
end OPS
