/-! Sheets drawn: the reference, and both. -/
/-- the reference's plan behind what is drawn -/
def hW (z : xm_H) (a : Nat) (s' : St) : xm_H := xm_si (xm_si z 82 17 (st_M s')) 82 18 (z.1 82 18 + sc1 (z.1 83) a)
theorem hW_q {z : xm_H} {a q : Nat} {s' : St} (hq : q ≠ 82) : (hW z a s').1 q = z.1 q := by
  unfold hW
  rw [xm_rn hq, xm_rn hq]
theorem hW_17 {z : xm_H} {a : Nat} {s' : St} : (hW z a s').1 82 17 = st_M s' := by
  unfold hW
  rw [xm_rk (by decide), xm_ra]
theorem hW_18 {z : xm_H} {a : Nat} {s' : St} : (hW z a s').1 82 18 = z.1 82 18 + sc1 (z.1 83) a := xm_ra
theorem hW_k {z : xm_H} {a j : Nat} {s' : St} (h1 : j ≠ 17) (h2 : j ≠ 18) : (hW z a s').1 82 j = z.1 82 j := by
  unfold hW
  rw [xm_rk h2, xm_rk h1]
section OPS
variable {L : Nat} {xs : Nat → Int32} {d : Nat} {SI : (Nat → Nat → Int32) → (Nat → Nat → Int64) → Prop}
theorem lp_calls {h : xm_H} {t u m rm B : Nat} {seed : Int64} {hp hq : Nat → Nat} (hR : h.2.2 = xm_R0 t) (ht : t = 5 ∨ t = 13) (u4 : u < 4) (hm : m ≤ 60) (hrm : rm ≤ 60) (e99 : h.1 99 u = nI m) (hB : B ≤ 6) (hnu : ∀ i, i < m → nuN h u i < B ∧ h.2.1 101 (60 * u + i) = lN (nuN h u i)) (hcs : ∀ j, j < B → hp j < 4 ∧ hq j < 4 ∧ F_X11_her h t (nI j) = nI (hp j) ∧ F_X11_his h t (nI j) = nI (hq j)) : ∀ k i (g : xm_H) (x : St × Int32 × Int64 × Int32) (o5 o6 o7 o8 : Option Value), k + i = m → g.2.2 = h.2.2 → (∀ q, q ≠ 82 → g.1 q = h.1 q) → (∀ j, j < 15 → g.1 82 j = h.1 82 j) → (∀ q, q ≠ 82 → g.2.1 q = h.2.1 q) → g.1 82 15 = nI rm → g.1 82 16 = 0 → g.1 82 17 = st_M x.1 → st_K x.1 → g.1 82 18 = x.2.1 → g.2.1 82 33 = x.2.2.1 → g.1 82 34 = x.2.2.2 → ∃ g', xm_E (xm_X0 L xs) xm_P (d + 8) co_X11_callsDrawn 16 [some (.ref 82), some (.long seed), none, some (.int (nI u)), some (.int (nI i)), o5, o6, o7, o8] [] g none g' ∧ g'.2.2 = h.2.2 ∧ (∀ q, q ≠ 82 → g'.1 q = h.1 q) ∧ (∀ j, j < 15 → g'.1 82 j = h.1 82 j) ∧ (∀ q, q ≠ 82 → g'.2.1 q = h.2.1 q) ∧ g'.1 82 17 = st_M (drw rm (h.1 83) hp hq (h.1 83 11).toInt64 (h.1 83 12).toInt64 (nuN h u) k i x).1 ∧ g'.1 82 18 = (drw rm (h.1 83) hp hq (h.1 83 11).toInt64 (h.1 83 12).toInt64 (nuN h u) k i x).2.1 ∧ g'.1 82 34 = (drw rm (h.1 83) hp hq (h.1 83 11).toInt64 (h.1 83 12).toInt64 (nuN h u) k i x).2.2.2 := by
  intro k
  induction k with
  | zero =>
    intro i g x o5 o6 o7 o8 hk a1 a2 ak a2' a15 a16 a3 a4 a5 a6 a7
    have hic : i = m := by omega
    subst hic
    exact ⟨g, s_X11_callsDrawn_16_0 (d := d + 1) (by rw [a1]; exact hR) ht (g_sl u4) (by rw [a2 99 (by decide), nI_clamp (by omega), e99]; exact nI_le (by omega) (by omega)), a1, a2, ak, a2', a3, a5, a7⟩
  | succ k ih =>
    intro i g x o5 o6 o7 o8 hk a1 a2 ak a2' a15 a16 a3 a4 a5 a6 a7
    have gR : g.2.2 = xm_R0 t := by rw [a1]; exact hR
    have c1 : ¬ (g.1 99 (nI u).toNatClampNeg ≤ nI i) := by rw [a2 99 (by decide), nI_clamp (by omega), e99]; exact nI_ge (by omega) (by omega)
    obtain ⟨hnB, en⟩ := hnu i (by omega)
    obtain ⟨hp4, hq4, eh, es⟩ := hcs (nuN h u i) hnB
    have eN : (F_X11_numberAt g t (nI u) (nI i)).toInt32 = nI (nuN h u i) := by
      unfold F_X11_numberAt
      rw [ix_60, nI_clamp (by omega), a2' 101 (by decide), en, lN_i]
    have hact : ∀ y : xm_H, (∀ q, q ≠ 82 → y.1 q = h.1 q) → F_X11_her y t (nI (nuN h u i)) = nI (hp (nuN h u i)) ∧ F_X11_his y t (nI (nuN h u i)) = nI (hq (nuN h u i)) := by
      intro y hy
      constructor
      · rw [← eh]
        unfold F_X11_her
        rw [hy 83 (by decide)]
      · rw [← es]
        unfold F_X11_his
        rw [hy 83 (by decide)]
    obtain ⟨g1, V1, q1, q2', q3, q4, q5, q6⟩ := v_drawAct (L := L) (xs := xs) (d := d) (h := g) (t := t) (p := hp (nuN h u i)) (w := 0) gR ht hp4 (by omega)
    have g1R : g1.2.2 = xm_R0 t := by rw [q1]; exact gR
    have g1q : ∀ q, q ≠ 82 → g1.1 q = h.1 q := fun q hq => by rw [q2' q hq, a2 q hq]
    obtain ⟨g2, V2, r1, r2, r3, r4, r5, r6⟩ := v_drawAct (L := L) (xs := xs) (d := d) (h := g1) (t := t) (p := hq (nuN h u i)) (w := 1) g1R ht hq4 (by omega)
    have g2q : ∀ q, q ≠ 82 → g2.1 q = h.1 q := fun q hq => by rw [r2 q hq, g1q q hq]
    have g2l : ∀ q, q ≠ 82 → g2.2.1 q = h.2.1 q := fun q hq => by rw [r4 q hq, q4 q hq, a2' q hq]
    have g2k : ∀ j, j ≠ 34 → g2.1 82 j = g.1 82 j := fun j hj => by rw [r3 j hj, q3 j hj]
    have g2R : g2.2.2 = xm_R0 t := by rw [r1]; exact g1R
    rw [a6, a7, a2 83 (by decide)] at V1 q5 q6
    rw [q5, q6, g1q 83 (by decide)] at V2 r5 r6
    have hp4' := hrd_lt (sl := (h.1 83 11).toInt64) (x := x.2.2.1) (n := x.2.2.2) hp4
    have hq4' := hrd_lt (sl := (h.1 83 12).toInt64) (x := (hrd (hp (nuN h u i)) (h.1 83 11).toInt64 x.2.2.1 x.2.2.2).2.1) (n := (hrd (hp (nuN h u i)) (h.1 83 11).toInt64 x.2.2.1 x.2.2.2).2.2) hq4
    obtain ⟨t1, t2, t3⟩ := mg_tab _ hp4' _ hq4'
    have g15 : g2.1 82 15 = nI rm := by rw [g2k 15 (by decide)]; exact a15
    have g16 : g2.1 82 16 = 0 := by rw [g2k 16 (by decide)]; exact a16
    have g0 : g2.1 82 17 = st_M x.1 := by rw [g2k 17 (by decide)]; exact a3
    have g1' : g2.1 82 18 = x.2.1 := by rw [g2k 18 (by decide)]; exact a5
    have gk : ∀ j, j < 15 → g2.1 82 j = h.1 82 j := fun j hj => by rw [g2k j (by omega)]; exact ak j hj
    have hdn := cm_done (hp := g2) (t := t) (s := x.1) (room := rm) (a := mg (hrd (hp (nuN h u i)) (h.1 83 11).toInt64 x.2.2.1 x.2.2.2).1 (hrd (hq (nuN h u i)) (h.1 83 12).toInt64 (hrd (hp (nuN h u i)) (h.1 83 11).toInt64 x.2.2.1 x.2.2.2).2.1 (hrd (hp (nuN h u i)) (h.1 83 11).toInt64 x.2.2.1 x.2.2.2).2.2).1) a4 t3 g16 g15 (by omega)
    have W1 : xm_V (xm_X0 L xs) xm_P (d + 1 + 7) 324 [.ref 82, .int (F_X11_her g t ((F_X11_numberAt g t (nI u) (nI i)).toInt32)), .int (0 : Int32)] g (some (.int (nI (hrd (hp (nuN h u i)) (h.1 83 11).toInt64 x.2.2.1 x.2.2.2).1))) g1 := by
      rw [eN, (hact g a2).1]
      exact V1
    have W2 : xm_V (xm_X0 L xs) xm_P (d + 1 + 7) 324 [.ref 82, .int (F_X11_his g1 t ((F_X11_numberAt g t (nI u) (nI i)).toInt32)), .int (1 : Int32)] g1 (some (.int (nI (hrd (hq (nuN h u i)) (h.1 83 12).toInt64 (hrd (hp (nuN h u i)) (h.1 83 11).toInt64 x.2.2.1 x.2.2.2).2.1 (hrd (hp (nuN h u i)) (h.1 83 11).toInt64 x.2.2.1 x.2.2.2).2.2).1))) g2 := by
      rw [eN, (hact g1 g1q).2]
      exact V2
    cases hs : st_do rm (mg (hrd (hp (nuN h u i)) (h.1 83 11).toInt64 x.2.2.1 x.2.2.2).1 (hrd (hq (nuN h u i)) (h.1 83 12).toInt64 (hrd (hp (nuN h u i)) (h.1 83 11).toInt64 x.2.2.1 x.2.2.2).2.1 (hrd (hp (nuN h u i)) (h.1 83 11).toInt64 x.2.2.1 x.2.2.2).2.2).1) x.1 with
    | none =>
      have ed : drw rm (h.1 83) hp hq (h.1 83 11).toInt64 (h.1 83 12).toInt64 (nuN h u) (k + 1) i x = drw rm (h.1 83) hp hq (h.1 83 11).toInt64 (h.1 83 12).toInt64 (nuN h u) k (i + 1) (x.1, x.2.1, (hrd (hq (nuN h u i)) (h.1 83 12).toInt64 (hrd (hp (nuN h u i)) (h.1 83 11).toInt64 x.2.2.1 x.2.2.2).2.1 (hrd (hp (nuN h u i)) (h.1 83 11).toInt64 x.2.2.1 x.2.2.2).2.2).2) := by simp only [drw, hs]
      rw [ed]
      have ez := hdn.2 hs
      rw [← t2, ← g0] at ez
      obtain ⟨g', b0, b⟩ := ih (i + 1) g2 (x.1, x.2.1, (hrd (hq (nuN h u i)) (h.1 83 12).toInt64 (hrd (hp (nuN h u i)) (h.1 83 11).toInt64 x.2.2.1 x.2.2.2).2.1 (hrd (hp (nuN h u i)) (h.1 83 11).toInt64 x.2.2.1 x.2.2.2).2.2).2) _ _ _ _ (by omega) (by rw [r1, q1, a1]) g2q gk g2l g15 g16 g0 a4 g1' r5 r6
      exact ⟨g', s_X11_callsDrawn_16_1 (d := d + 1) gR ht (g_sl u4) c1 (g_60 u4 (by omega)) (by rw [eN]; exact g_her (by omega)) W1 (by rw [eN]; exact g_his (by omega)) g1R W2 g2R ez (by rw [nI_1]; exact b0), b⟩
    | some s' =>
      have ed : drw rm (h.1 83) hp hq (h.1 83 11).toInt64 (h.1 83 12).toInt64 (nuN h u) (k + 1) i x = drw rm (h.1 83) hp hq (h.1 83 11).toInt64 (h.1 83 12).toInt64 (nuN h u) k (i + 1) (s', x.2.1 + sc1 (h.1 83) (mg (hrd (hp (nuN h u i)) (h.1 83 11).toInt64 x.2.2.1 x.2.2.2).1 (hrd (hq (nuN h u i)) (h.1 83 12).toInt64 (hrd (hp (nuN h u i)) (h.1 83 11).toInt64 x.2.2.1 x.2.2.2).2.1 (hrd (hp (nuN h u i)) (h.1 83 11).toInt64 x.2.2.1 x.2.2.2).2.2).1), (hrd (hq (nuN h u i)) (h.1 83 12).toInt64 (hrd (hp (nuN h u i)) (h.1 83 11).toInt64 x.2.2.1 x.2.2.2).2.1 (hrd (hp (nuN h u i)) (h.1 83 11).toInt64 x.2.2.1 x.2.2.2).2.2).2) := by simp only [drw, hs]
      rw [ed]
      have ez := hdn.1 s' hs
      rw [← t2, ← g0] at ez
      obtain ⟨g', b0, b⟩ := ih (i + 1) (hW g2 (mg (hrd (hp (nuN h u i)) (h.1 83 11).toInt64 x.2.2.1 x.2.2.2).1 (hrd (hq (nuN h u i)) (h.1 83 12).toInt64 (hrd (hp (nuN h u i)) (h.1 83 11).toInt64 x.2.2.1 x.2.2.2).2.1 (hrd (hp (nuN h u i)) (h.1 83 11).toInt64 x.2.2.1 x.2.2.2).2.2).1) s') (s', x.2.1 + sc1 (h.1 83) (mg (hrd (hp (nuN h u i)) (h.1 83 11).toInt64 x.2.2.1 x.2.2.2).1 (hrd (hq (nuN h u i)) (h.1 83 12).toInt64 (hrd (hp (nuN h u i)) (h.1 83 11).toInt64 x.2.2.1 x.2.2.2).2.1 (hrd (hp (nuN h u i)) (h.1 83 11).toInt64 x.2.2.1 x.2.2.2).2.2).1), (hrd (hq (nuN h u i)) (h.1 83 12).toInt64 (hrd (hp (nuN h u i)) (h.1 83 11).toInt64 x.2.2.1 x.2.2.2).2.1 (hrd (hp (nuN h u i)) (h.1 83 11).toInt64 x.2.2.1 x.2.2.2).2.2).2) _ _ _ _ (by omega) (by show g2.2.2 = h.2.2; rw [r1, q1, a1]) (fun q hq => by rw [hW_q hq]; exact g2q q hq) (fun j hj => by rw [hW_k (by omega) (by omega)]; exact gk j hj) g2l (by rw [hW_k (by decide) (by decide)]; exact g15) (by rw [hW_k (by decide) (by decide)]; exact g16) hW_17 (st_do_K a4 hs t3) (by rw [hW_18, g1', g2q 83 (by decide)]) r5 (by rw [hW_k (by decide) (by decide)]; exact r6)
      refine ⟨g', s_X11_callsDrawn_16_2 (d := d + 1) gR ht (g_sl u4) c1 (g_60 u4 (by omega)) (by rw [eN]; exact g_her (by omega)) W1 (by rw [eN]; exact g_his (by omega)) g1R W2 g2R (by rw [ez]; exact st_M_n1 (st_do_K a4 hs t3)) ?_, b⟩
      rw [ez, t2, tk_of t3, nI_1]
      simp (disch := omega) only [xm_rn, xm_ra, xm_rk]
      exact b0
/-- both draw -/
theorem op_draw {h : xm_H} {t u m B : Nat} {sd : Int32} {sd' : Int64} (hsd : sd.toInt64 = sd') (hr : Rel SI h) (ht : t = 5 ∨ t = 13) (hR : h.2.2 = xm_R0 t) (hw : rl_wf (h.1 83)) (hli : rl_lin (h.1 t) (h.1 (t + 1)) (h.1 (t + 2)) (h.1 (t + 3)) (h.1 (t + 4)) (h.1 (t + 5)) (h.1 (t + 6)) (h.1 (t + 7)) (h.1 83)) (hwk : rl_wk (h.1 3) (h.1 4) (h.1 83)) (hn : ¬ h.1 83 22 = 0) (u4 : u < 4) (hm : m ≤ 60) (e3 : h.1 (53 + 2 * u) 3 = nI m) (e99 : h.1 99 u = nI m) (e19 : h.1 83 19 = nI B) (hB : B ≤ 6) (hnu : ∀ i, i < m → ∃ n, n < B ∧ h.2.1 (54 + 2 * u) i = lN n ∧ h.2.1 101 (60 * u + i) = lN n) : ∃ (x : St × Int32 × Int64 × Int32) (g : xm_H), st_K x.1 ∧ xm_V (xm_X0 L xs) xm_P (d + 11) 169 [.ref 73, .ref 3, .ref (53 + 2 * u), .int sd] h none g ∧ g.2.2 = h.2.2 ∧ (∀ q, q ≠ 73 → g.1 q = h.1 q) ∧ (∀ q, q ≠ 73 → g.2.1 q = h.2.1 q) ∧ g.1 73 0 = st_P x.1 ∧ g.1 73 1 = x.2.1 ∧ g.1 73 3 = x.2.2.2 ∧ Rel SI g ∧ (∀ y : xm_H, y.2.2 = h.2.2 → (∀ q, q ≠ 73 → q ≠ 82 → y.1 q = h.1 q) → (∀ q, q ≠ 73 → q ≠ 82 → y.2.1 q = h.2.1 q) → (∀ j, j < 15 → y.1 82 j = h.1 82 j) → ∃ z, xm_V (xm_X0 L xs) xm_P (d + 11) 323 [.ref 82, .long sd', .int (nI u)] y none z ∧ z.2.2 = h.2.2 ∧ (∀ q, q ≠ 73 → q ≠ 82 → z.1 q = h.1 q) ∧ (∀ q, q ≠ 73 → q ≠ 82 → z.2.1 q = h.2.1 q) ∧ (∀ j, j < 15 → z.1 82 j = h.1 82 j) ∧ z.1 82 17 = st_M x.1 ∧ z.1 82 18 = x.2.1 ∧ z.1 82 34 = x.2.2.2 ∧ Rel SI z) := by
  subst hsd
  obtain ⟨c, s, rm, hc, e23, hact, h0, h1, h3', hs, hK, er, hrm, e4, h14, e2, e33, esec, hac⟩ := told_of hw hli hwk hn
  obtain ⟨c', hc', e6, e19', -, hcs⟩ := calls_of hw hli
  have hcc : c' = B := by
    rw [e19', nI_eq (by omega) (by omega)] at e19
    exact e19
  subst hcc
  have e7 : h.1 t 7 = h.1 83 11 := hli.2.2.2.2.2.2.2.1
  have e8 : h.1 t 8 = h.1 83 12 := hli.2.2.2.2.2.2.2.2.1
  have hcs' : ∀ j, j < c' → (F_X11_her h t (nI j)).toNatClampNeg < 4 ∧ (F_X11_his h t (nI j)).toNatClampNeg < 4 ∧ F_X0_herAct h t (nI j) = nI (F_X11_her h t (nI j)).toNatClampNeg ∧ F_X0_hisAct h t (nI j) = nI (F_X11_his h t (nI j)).toNatClampNeg ∧ F_X11_her h t (nI j) = nI (F_X11_her h t (nI j)).toNatClampNeg ∧ F_X11_his h t (nI j) = nI (F_X11_his h t (nI j)).toNatClampNeg := by
    intro j hj
    obtain ⟨p, q, hp, hq, b1, b2, b3, b4⟩ := hcs j hj
    rw [b1, b2, b3, b4, nI_clamp (by omega), nI_clamp (by omega)]
    exact ⟨hp, hq, rfl, rfl, rfl, rfl⟩
  have hnu1 : ∀ i, i < m → nuN h u i < c' ∧ h.2.1 (54 + 2 * u) i = lN (nuN h u i) ∧ h.2.1 101 (60 * u + i) = lN (nuN h u i) := fun i hi => by
    obtain ⟨n, n1, n2, n3⟩ := hnu i hi
    rw [nuN_of (by omega) n2]
    exact ⟨n1, n2, n3⟩
  have hUl : ∀ q, q ≠ 73 → (xm_sl (hU h) 73 4 sd.toInt64).2.1 q = h.2.1 q := fun q hq => xm_ln hq
  obtain ⟨g, b0, b1, b2, b2', b3, b4, b5, b6⟩ := lp_draw (L := L) (xs := xs) (d := d + 2) (seed := sd) (hp := fun j => (F_X11_her h t (nI j)).toNatClampNeg) (hq := fun j => (F_X11_his h t (nI j)).toNatClampNeg) hR ht u4 hm hrm e4 h14 e3 hc' (fun i hi => ⟨(hnu1 i hi).1, (hnu1 i hi).2.1⟩) (fun j hj => by obtain ⟨z1, z2, z3, z4, -⟩ := hcs' j hj; exact ⟨z1, z2, z3, z4⟩) m 0 (xm_sl (hU h) 73 4 sd.toInt64) (s, sc (h.1 83) c, sd.toInt64, 0) none none none (by omega) rfl (fun q hq => hU_q hq) hUl (by show (hU h).1 73 0 = st_P s; rw [hU_0, e33]) hK (by show (hU h).1 73 1 = sc (h.1 83) c; rw [hU_1, esec]) xm_la (hU_3 (h := h))
  have VG := v_X7_draw (d := d + 10) (s_X7_draw_0_0 (L := L) (xs := xs) (d := d + 3) (h := h) (l3 := sd) (v_tbegin (d := d + 2)) b0)
  rw [e7, e8] at b3 b4 b5 b6
  refine ⟨_, g, b4, VG, b1, b2, b2', b3, b5, b6, ?_, ?_⟩
  · refine hr.frame b1 (fun q hq => b2 q (by unfold rl_cell at hq; omega)) (fun q hq => b2' q (by unfold rl_cell at hq; omega)) (fun j _ => by rw [b2 1 (by decide)]) (fun j _ => by rw [b2 82 (by decide)])
  · intro y y2 yq yl yk
    have y83 : y.1 83 = h.1 83 := yq 83 (by decide) (by decide)
    have yR : y.2.2 = xm_R0 t := by rw [y2]; exact hR
    have enu : nuN y u = nuN h u := by
      funext i
      unfold nuN
      rw [yl (54 + 2 * u) (by omega) (by omega)]
    have VN := v_now (L := L) (xs := xs) (d := d + 1) (h := y) (t := t) (c := c) (s := s) yR ht hc (by rw [y83]; exact e23) (by rw [y83]; exact hact) (by rw [y83]; exact h0) (by rw [y83]; exact h1) (by rw [y83]; exact h3') (by rw [y83]; exact hs)
    let z1 : xm_H := xm_si (rf_n y) 82 17 (st_M s)
    have z83 : z1.1 83 = h.1 83 := by
      show (xm_si (rf_n y) 82 17 (st_M s)).1 83 = h.1 83
      rw [xm_rn (by decide), rf_n83, y83]
    have VGn := v_gone (L := L) (xs := xs) (d := d + 2) (h := z1) yR ht hc (by rw [z83]; exact e23) (by rw [z83]; exact hact)
    rw [z83] at VGn
    let z2 : xm_H := xm_si (xm_sl (xm_si z1 82 18 (sc (h.1 83) c)) 82 33 sd.toInt64) 82 34 (0 : Int32)
    have zk : ∀ j, j ≠ 17 → j ≠ 18 → j ≠ 34 → z2.1 82 j = (rf_n y).1 82 j := fun j j1 j2 j3 => by
      show (xm_si (xm_si z1 82 18 (sc (h.1 83) c)) 82 34 (0 : Int32)).1 82 j = (rf_n y).1 82 j
      rw [xm_rk j3, xm_rk j2]
      exact xm_rk j1
    have zq : ∀ q, q ≠ 82 → z2.1 q = y.1 q := fun q hq => by
      show (xm_si (xm_si (xm_si (rf_n y) 82 17 (st_M s)) 82 18 (sc (h.1 83) c)) 82 34 (0 : Int32)).1 q = y.1 q
      rw [xm_rn hq, xm_rn hq, xm_rn hq, rf_nq y hq]
    obtain ⟨z', c0, c1, c2, c3, c4, c5, c6, c7⟩ := lp_calls (L := L) (xs := xs) (d := d + 2) (h := y) (seed := sd.toInt64) (u := u) (m := m) (rm := rm) (B := c') (hp := fun j => (F_X11_her h t (nI j)).toNatClampNeg) (hq := fun j => (F_X11_his h t (nI j)).toNatClampNeg) yR ht u4 hm hrm (by rw [yq 99 (by decide) (by decide)]; exact e99) hc' (fun i hi => by rw [enu, yl 101 (by decide) (by decide)]; exact ⟨(hnu1 i hi).1, (hnu1 i hi).2.2⟩) (fun j hj => by
      obtain ⟨z1, z2, -, -, z5, z6⟩ := hcs' j hj
      refine ⟨z1, z2, ?_, ?_⟩
      · unfold F_X11_her at z5 ⊢
        rw [y83]
        exact z5
      · unfold F_X11_his at z6 ⊢
        rw [y83]
        exact z6) m 0 z2 (s, sc (h.1 83) c, sd.toInt64, 0) none none none none (by omega) rfl zq (fun j hj => by rw [zk j (by omega) (by omega) (by omega), rf_nk y (by omega) (by omega)]) (fun q hq => xm_ln hq) (by rw [zk 15 (by decide) (by decide) (by decide), rf_n15, y83]; exact er) (by rw [zk 16 (by decide) (by decide) (by decide), rf_n16]) (by show (xm_si (xm_si z1 82 18 (sc (h.1 83) c)) 82 34 (0 : Int32)).1 82 17 = st_M s; rw [xm_rk (by decide), xm_rk (by decide)]; exact xm_ra) hK (by show (xm_si (xm_si z1 82 18 (sc (h.1 83) c)) 82 34 (0 : Int32)).1 82 18 = sc (h.1 83) c; rw [xm_rk (by decide), xm_ra]) xm_la xm_ra
    rw [y83, enu] at c5 c6 c7
    have fz : ∀ q, q ≠ 73 → q ≠ 82 → z'.1 q = h.1 q := fun q q1 q2 => by rw [c2 q q2, yq q q1 q2]
    have fl : ∀ q, q ≠ 73 → q ≠ 82 → z'.2.1 q = h.2.1 q := fun q q1 q2 => by rw [c4 q q2, yl q q1 q2]
    have fk : ∀ j, j < 15 → z'.1 82 j = h.1 82 j := fun j hj => by rw [c3 j hj, yk j hj]
    refine ⟨z', v_X11_callsDrawn (d := d + 10) (s_X11_callsDrawn_0_0 (d := d + 3) VN VGn c0), c1.trans y2, fz, fl, fk, c5, c6, c7, ?_⟩
    exact hr.frame (c1.trans y2) (fun q hq => fz q (by unfold rl_cell at hq; omega) (by unfold rl_cell at hq; omega)) (fun q hq => fl q (by unfold rl_cell at hq; omega) (by unfold rl_cell at hq; omega)) (fun j _ => by rw [fz 1 (by decide) (by decide)]) (fun j hj => fk j (by omega))
end OPS
