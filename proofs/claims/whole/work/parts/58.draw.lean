/-! Sheets drawn. -/
/-- the next number drawn; what it says of a hundred -/
def dnx (x : Int64) : Int64 := (((1103515245 : Int64) * x) + (12345 : Int64)) - (((1103515245 : Int64) * x) + (12345 : Int64)) / (2147483648 : Int64) * (2147483648 : Int64)
def dpc (x : Int64) : Int64 := (x / (65536 : Int64)) - (x / (65536 : Int64)) / (100 : Int64) * (100 : Int64)
/-- an act as it is heard -/
def hrd (p : Nat) (sl x : Int64) (n : Int32) : Nat × Int64 × Int32 :=
  if p ≤ 1 then (if lg_cmp (dpc (dnx x)) sl < 0 then (1 - p, dnx x, n + 1) else (p, dnx x, n)) else (p, x, n)
theorem hrd_lt {p : Nat} {sl x : Int64} {n : Int32} (hp : p < 4) : (hrd p sl x n).1 < 4 := by
  unfold hrd
  split
  · split
    · show 1 - p < 4
      omega
    · exact hp
  · exact hp
/-- what is drawn: state, seconds, number, slips -/
def drw (rm : Nat) (w : Nat → Int32) (hp hq : Nat → Nat) (sa sb : Int64) (nu : Nat → Nat) : Nat → Nat → St × Int32 × Int64 × Int32 → St × Int32 × Int64 × Int32
  | 0, _, x => x
  | k + 1, i, x => drw rm w hp hq sa sb nu k (i + 1) (match st_do rm (mg (hrd (hp (nu i)) sa x.2.2.1 x.2.2.2).1 (hrd (hq (nu i)) sb (hrd (hp (nu i)) sa x.2.2.1 x.2.2.2).2.1 (hrd (hp (nu i)) sa x.2.2.1 x.2.2.2).2.2).1) x.1 with
    | none => (x.1, x.2.1, (hrd (hq (nu i)) sb (hrd (hp (nu i)) sa x.2.2.1 x.2.2.2).2.1 (hrd (hp (nu i)) sa x.2.2.1 x.2.2.2).2.2).2)
    | some s' => (s', x.2.1 + sc1 w (mg (hrd (hp (nu i)) sa x.2.2.1 x.2.2.2).1 (hrd (hq (nu i)) sb (hrd (hp (nu i)) sa x.2.2.1 x.2.2.2).2.1 (hrd (hp (nu i)) sa x.2.2.1 x.2.2.2).2.2).1), (hrd (hq (nu i)) sb (hrd (hp (nu i)) sa x.2.2.1 x.2.2.2).2.1 (hrd (hp (nu i)) sa x.2.2.1 x.2.2.2).2.2).2))
section OPS
variable {L : Nat} {xs : Nat → Int32} {d : Nat} {SI : (Nat → Nat → Int32) → (Nat → Nat → Int64) → Prop}
/-- the class hears -/
theorem v_heard {h : xm_H} {p : Nat} {sl : Int32} (hp : p < 4) : ∃ g, xm_V (xm_X0 L xs) xm_P (d + 8) 170 [.ref 73, .int (nI p), .int sl] h (some (.int (nI (hrd p sl.toInt64 (h.2.1 73 4) (h.1 73 3)).1))) g ∧ g.2.2 = h.2.2 ∧ (∀ q, q ≠ 73 → g.1 q = h.1 q) ∧ (∀ j, j ≠ 3 → g.1 73 j = h.1 73 j) ∧ (∀ q, q ≠ 73 → g.2.1 q = h.2.1 q) ∧ g.2.1 73 4 = (hrd p sl.toInt64 (h.2.1 73 4) (h.1 73 3)).2.1 ∧ g.1 73 3 = (hrd p sl.toInt64 (h.2.1 73 4) (h.1 73 3)).2.2 := by
  have c1 := (csl_tab p hp).1
  unfold hrd
  by_cases k1 : p ≤ 1
  · rw [if_pos k1]
    have c0 : ¬ F_X0_canSlip (nI p) = 0 := fun z => c1.mp z k1
    by_cases k2 : lg_cmp (dpc (dnx (h.2.1 73 4))) sl.toInt64 < 0
    · rw [if_pos k2]
      have hg : ∃ g, xm_V (xm_X0 L xs) xm_P (d + 8) 170 [.ref 73, .int (nI p), .int sl] h (some (.int (nI (1 - p)))) g ∧ g = xm_si (xm_sl h 73 4 (dnx (h.2.1 73 4))) 73 3 (h.1 73 3 + 1) := by
        have hp01 : p = 0 ∨ p = 1 := by omega
        rcases hp01 with rfl | rfl
        · exact ⟨_, v_X7_heard (d := d + 7) (s_X7_heard_0_1 (d := d) c0 (by rw [xm_la]; exact k2) rfl), rfl⟩
        · exact ⟨_, v_X7_heard (d := d + 7) (s_X7_heard_0_2 (d := d) c0 (by rw [xm_la]; exact k2) (by decide)), rfl⟩
      obtain ⟨g, V, rfl⟩ := hg
      exact ⟨_, V, rfl, fun q hq => xm_rn hq, fun j hj => xm_rk hj, fun q hq => xm_ln hq, xm_la, xm_ra⟩
    · rw [if_neg k2]
      exact ⟨_, v_X7_heard (d := d + 7) (s_X7_heard_0_3 (d := d) c0 (by rw [xm_la]; exact k2)), rfl, fun q hq => rfl, fun j hj => rfl, fun q hq => xm_ln hq, xm_la, rfl⟩
  · rw [if_neg k1]
    exact ⟨h, v_X7_heard (d := d + 7) (s_X7_heard_0_0 (d := d) (c1.mpr k1)), rfl, fun _ _ => rfl, fun _ _ => rfl, fun _ _ => rfl, rfl, rfl⟩
theorem v_drawAct {h : xm_H} {t p w : Nat} (hR : h.2.2 = xm_R0 t) (ht : t = 5 ∨ t = 13) (hp : p < 4) (hw : w ≤ 1) : ∃ g, xm_V (xm_X0 L xs) xm_P (d + 8) 324 [.ref 82, .int (nI p), .int (nI w)] h (some (.int (nI (hrd p (h.1 83 (11 + w)).toInt64 (h.2.1 82 33) (h.1 82 34)).1))) g ∧ g.2.2 = h.2.2 ∧ (∀ q, q ≠ 82 → g.1 q = h.1 q) ∧ (∀ j, j ≠ 34 → g.1 82 j = h.1 82 j) ∧ (∀ q, q ≠ 82 → g.2.1 q = h.2.1 q) ∧ g.2.1 82 33 = (hrd p (h.1 83 (11 + w)).toInt64 (h.2.1 82 33) (h.1 82 34)).2.1 ∧ g.1 82 34 = (hrd p (h.1 83 (11 + w)).toInt64 (h.2.1 82 33) (h.1 82 34)).2.2 := by
  have c1 := (csl_tab p hp).2
  have e11 : ((11 : Int32) + nI w) = nI (11 + w) := by rw [show (11 : Int32) = nI 11 from rfl, nI_add]
  have gi : ¬ ((11 : Int32) + nI w < 0 ∨ 110 ≤ ((11 : Int32) + nI w).toNatClampNeg) := by
    rw [e11]
    exact nI_in (by omega) (by omega)
  have ec : ((11 : Int32) + nI w).toNatClampNeg = 11 + w := by rw [e11, nI_clamp (by omega)]
  unfold hrd
  by_cases k1 : p ≤ 1
  · rw [if_pos k1]
    have c0 : ¬ F_X11_slips (nI p) = 0 := fun z => c1.mp z k1
    by_cases k2 : lg_cmp (dpc (dnx (h.2.1 82 33))) (h.1 83 (11 + w)).toInt64 < 0
    · rw [if_pos k2]
      have V := v_X11_drawAct (d := d + 7) (s_X11_drawAct_0_1 (L := L) (xs := xs) (d := d) (h := h) (l1 := nI p) (l2 := nI w) hR ht c0 gi (by rw [xm_la, ec]; exact k2))
      have e1 : (1 : Int32) - nI p = nI (1 - p) := nm_sub (a := 1) (by omega)
      rw [e1] at V
      exact ⟨_, V, rfl, fun q hq => xm_rn hq, fun j hj => xm_rk hj, fun q hq => xm_ln hq, xm_la, xm_ra⟩
    · rw [if_neg k2]
      exact ⟨_, v_X11_drawAct (d := d + 7) (s_X11_drawAct_0_2 (d := d) hR ht c0 gi (by rw [xm_la, ec]; exact k2)), rfl, fun q hq => rfl, fun j hj => rfl, fun q hq => xm_ln hq, xm_la, rfl⟩
  · rw [if_neg k1]
    exact ⟨h, v_X11_drawAct (d := d + 7) (s_X11_drawAct_0_0 (d := d) (c1.mpr k1)), rfl, fun _ _ => rfl, fun _ _ => rfl, fun _ _ => rfl, rfl, rfl⟩
theorem lp_draw {h : xm_H} {t u m rm B : Nat} {seed : Int32} {hp hq : Nat → Nat} (hR : h.2.2 = xm_R0 t) (ht : t = 5 ∨ t = 13) (u4 : u < 4) (hm : m ≤ 60) (hrm : rm ≤ 60) (e4 : h.1 t 4 = nI rm) (h14 : ∀ k, k < 6 → h.1 (t + 2) k = h.1 83 (5 + k)) (e3 : h.1 (53 + 2 * u) 3 = nI m) (hB : B ≤ 6) (hnu : ∀ i, i < m → nuN h u i < B ∧ h.2.1 (54 + 2 * u) i = lN (nuN h u i)) (hcs : ∀ j, j < B → hp j < 4 ∧ hq j < 4 ∧ F_X0_herAct h t (nI j) = nI (hp j) ∧ F_X0_hisAct h t (nI j) = nI (hq j)) : ∀ k i (g : xm_H) (x : St × Int32 × Int64 × Int32) (o5 o6 o7 : Option Value), k + i = m → g.2.2 = h.2.2 → (∀ q, q ≠ 73 → g.1 q = h.1 q) → (∀ q, q ≠ 73 → g.2.1 q = h.2.1 q) → g.1 73 0 = st_P x.1 → st_K x.1 → g.1 73 1 = x.2.1 → g.2.1 73 4 = x.2.2.1 → g.1 73 3 = x.2.2.2 → ∃ g', xm_E (xm_X0 L xs) xm_P (d + 8) co_X7_draw 9 [some (.ref 73), some (.ref 3), some (.ref (53 + 2 * u)), some (.int seed), some (.int (nI i)), o5, o6, o7] [] g none g' ∧ g'.2.2 = h.2.2 ∧ (∀ q, q ≠ 73 → g'.1 q = h.1 q) ∧ (∀ q, q ≠ 73 → g'.2.1 q = h.2.1 q) ∧ g'.1 73 0 = st_P (drw rm (h.1 83) hp hq (h.1 t 7).toInt64 (h.1 t 8).toInt64 (nuN h u) k i x).1 ∧ st_K (drw rm (h.1 83) hp hq (h.1 t 7).toInt64 (h.1 t 8).toInt64 (nuN h u) k i x).1 ∧ g'.1 73 1 = (drw rm (h.1 83) hp hq (h.1 t 7).toInt64 (h.1 t 8).toInt64 (nuN h u) k i x).2.1 ∧ g'.1 73 3 = (drw rm (h.1 83) hp hq (h.1 t 7).toInt64 (h.1 t 8).toInt64 (nuN h u) k i x).2.2.2 := by
  intro k
  induction k with
  | zero =>
    intro i g x o5 o6 o7 hk a1 a2 a2' a3 a4 a5 a6 a7
    have hic : i = m := by omega
    subst hic
    exact ⟨g, s_X7_draw_9_0 (d := d + 1) (rw_sh u4) (by rw [a2 _ (by omega), e3]; exact nI_le (by omega) (by omega)), a1, a2, a2', a3, a4, a5, a7⟩
  | succ k ih =>
    intro i g x o5 o6 o7 hk a1 a2 a2' a3 a4 a5 a6 a7
    have gR : g.2.2 = xm_R0 t := by rw [a1]; exact hR
    have ge3 : g.1 (53 + 2 * u) 3 = nI m := by rw [a2 _ (by omega), e3]
    have c1 : ¬ (g.1 (53 + 2 * u) 3 ≤ nI i) := by rw [ge3]; exact nI_ge (by omega) (by omega)
    have V := v_at (L := L) (xs := xs) (d := d) gR u4 hm (show i < m by omega) ge3
    obtain ⟨hnB, en⟩ := hnu i (by omega)
    rw [show g.2.1 (54 + 2 * u) i = lN (nuN h u i) by rw [a2' _ (by omega)]; exact en] at V
    obtain ⟨hp4, hq4, eh, es⟩ := hcs (nuN h u i) hnB
    have hact : ∀ y : xm_H, (∀ q, q ≠ 73 → y.1 q = h.1 q) → F_X0_herAct y t (nI (nuN h u i)) = nI (hp (nuN h u i)) ∧ F_X0_hisAct y t (nI (nuN h u i)) = nI (hq (nuN h u i)) := by
      intro y hy
      constructor
      · rw [← eh]
        unfold F_X0_herAct
        rw [hy (t + 3) (by omega)]
      · rw [← es]
        unfold F_X0_hisAct
        rw [hy (t + 4) (by omega)]
    obtain ⟨g1, V1, q1, q2', q3, q4, q5, q6⟩ := v_heard (L := L) (xs := xs) (d := d) (h := g) (p := hp (nuN h u i)) (sl := h.1 t 7) hp4
    have g1q : ∀ q, q ≠ 73 → g1.1 q = h.1 q := fun q hq => by rw [q2' q hq, a2 q hq]
    obtain ⟨g2, V2, r1, r2, r3, r4, r5, r6⟩ := v_heard (L := L) (xs := xs) (d := d) (h := g1) (p := hq (nuN h u i)) (sl := h.1 t 8) hq4
    have g2q : ∀ q, q ≠ 73 → g2.1 q = h.1 q := fun q hq => by rw [r2 q hq, g1q q hq]
    have g2l : ∀ q, q ≠ 73 → g2.2.1 q = h.2.1 q := fun q hq => by rw [r4 q hq, q4 q hq, a2' q hq]
    have g2R : g2.2.2 = xm_R0 t := by rw [r1, q1]; exact gR
    rw [a6, a7] at V1 q5 q6
    rw [q5, q6] at V2 r5 r6
    have hp4' := hrd_lt (sl := (h.1 t 7).toInt64) (x := x.2.2.1) (n := x.2.2.2) hp4
    have hq4' := hrd_lt (sl := (h.1 t 8).toInt64) (x := (hrd (hp (nuN h u i)) (h.1 t 7).toInt64 x.2.2.1 x.2.2.2).2.1) (n := (hrd (hp (nuN h u i)) (h.1 t 7).toInt64 x.2.2.1 x.2.2.2).2.2) hq4
    obtain ⟨t1, t2, t3⟩ := mg_tab _ hp4' _ hq4'
    have ge4 : g2.1 t 4 = nI rm := by rw [g2q t (by omega)]; exact e4
    have g0 : g2.1 73 0 = st_P x.1 := by rw [r3 0 (by decide), q3 0 (by decide)]; exact a3
    have g1' : g2.1 73 1 = x.2.1 := by rw [r3 1 (by decide), q3 1 (by decide)]; exact a5
    have fin : ∀ (y : xm_H) (rr : Int32) (x' : St × Int32 × Int64 × Int32), xm_V (xm_X0 L xs) xm_P (d + 8) 73 [.ref 73, .ref t, .int (nI (mg (hrd (hp (nuN h u i)) (h.1 t 7).toInt64 x.2.2.1 x.2.2.2).1 (hrd (hq (nuN h u i)) (h.1 t 8).toInt64 (hrd (hp (nuN h u i)) (h.1 t 7).toInt64 x.2.2.1 x.2.2.2).2.1 (hrd (hp (nuN h u i)) (h.1 t 7).toInt64 x.2.2.1 x.2.2.2).2.2).1))] g2 (some (.int rr)) y → y.2 = g2.2 → (∀ q, q ≠ 73 → y.1 q = h.1 q) → y.1 73 0 = st_P x'.1 → st_K x'.1 → y.1 73 1 = x'.2.1 → y.2.1 73 4 = x'.2.2.1 → y.1 73 3 = x'.2.2.2 → drw rm (h.1 83) hp hq (h.1 t 7).toInt64 (h.1 t 8).toInt64 (nuN h u) (k + 1) i x = drw rm (h.1 83) hp hq (h.1 t 7).toInt64 (h.1 t 8).toInt64 (nuN h u) k (i + 1) x' → ∃ g', xm_E (xm_X0 L xs) xm_P (d + 8) co_X7_draw 9 [some (.ref 73), some (.ref 3), some (.ref (53 + 2 * u)), some (.int seed), some (.int (nI i)), o5, o6, o7] [] g none g' ∧ g'.2.2 = h.2.2 ∧ (∀ q, q ≠ 73 → g'.1 q = h.1 q) ∧ (∀ q, q ≠ 73 → g'.2.1 q = h.2.1 q) ∧ g'.1 73 0 = st_P (drw rm (h.1 83) hp hq (h.1 t 7).toInt64 (h.1 t 8).toInt64 (nuN h u) (k + 1) i x).1 ∧ st_K (drw rm (h.1 83) hp hq (h.1 t 7).toInt64 (h.1 t 8).toInt64 (nuN h u) (k + 1) i x).1 ∧ g'.1 73 1 = (drw rm (h.1 83) hp hq (h.1 t 7).toInt64 (h.1 t 8).toInt64 (nuN h u) (k + 1) i x).2.1 ∧ g'.1 73 3 = (drw rm (h.1 83) hp hq (h.1 t 7).toInt64 (h.1 t 8).toInt64 (nuN h u) (k + 1) i x).2.2.2 := by
      intro y rr x' VT y2 yq y0 yK y1 y4 y3 ed
      rw [ed]
      obtain ⟨g', b0, b⟩ := ih (i + 1) y x' (some (.int (nI (nuN h u i)))) (some (.int (nI (hrd (hp (nuN h u i)) (h.1 t 7).toInt64 x.2.2.1 x.2.2.2).1))) (some (.int (nI (hrd (hq (nuN h u i)) (h.1 t 8).toInt64 (hrd (hp (nuN h u i)) (h.1 t 7).toInt64 x.2.2.1 x.2.2.2).2.1 (hrd (hp (nuN h u i)) (h.1 t 7).toInt64 x.2.2.1 x.2.2.2).2.2).1))) (by omega) (by rw [y2, r1, q1, a1]) yq (fun q hq => by rw [y2]; exact g2l q hq) y0 yK y1 y4 y3
      refine ⟨g', ?_, b⟩
      have K := s_X7_draw_9_1 (L := L) (xs := xs) (d := d + 1) (h := g) (t := t) (l2 := 53 + 2 * u) (l3 := seed) (l4 := nI i) (l5 := o5) (l6 := o6) (l7 := o7) (r0 := lN (nuN h u i)) (h0 := g) (h4 := g1) (h8 := g2) (h11 := y) (r11 := rr) (r4 := nI (hrd (hp (nuN h u i)) (h.1 t 7).toInt64 x.2.2.1 x.2.2.2).1) (r8 := nI (hrd (hq (nuN h u i)) (h.1 t 8).toInt64 (hrd (hp (nuN h u i)) (h.1 t 7).toInt64 x.2.2.1 x.2.2.2).2.1 (hrd (hp (nuN h u i)) (h.1 t 7).toInt64 x.2.2.1 x.2.2.2).2.2).1) (ro := none) (ho := g') ht (rw_sh u4) c1 V gR (by rw [lN_i, (hact g a2).1, a2 t (by omega)]; exact V1) (by rw [q1]; exact gR) (by rw [lN_i, (hact g1 g1q).2, g1q t (by omega)]; exact V2) g2R (by rw [t1]; exact VT) (by rw [lN_i, nI_1]; exact b0)
      exact K
    cases hs : st_do rm (mg (hrd (hp (nuN h u i)) (h.1 t 7).toInt64 x.2.2.1 x.2.2.2).1 (hrd (hq (nuN h u i)) (h.1 t 8).toInt64 (hrd (hp (nuN h u i)) (h.1 t 7).toInt64 x.2.2.1 x.2.2.2).2.1 (hrd (hp (nuN h u i)) (h.1 t 7).toInt64 x.2.2.1 x.2.2.2).2.2).1) x.1 with
    | none =>
      exact fin g2 0 (x.1, x.2.1, (hrd (hq (nuN h u i)) (h.1 t 8).toInt64 (hrd (hp (nuN h u i)) (h.1 t 7).toInt64 x.2.2.1 x.2.2.2).2.1 (hrd (hp (nuN h u i)) (h.1 t 7).toInt64 x.2.2.1 x.2.2.2).2.2).2) (v_try0 (d := d) ht g0 a4 ge4 hrm t3 hs) rfl g2q g0 a4 g1' r5 r6 (by simp only [drw, hs])
    | some s' =>
      refine fin (hT g2 (mg (hrd (hp (nuN h u i)) (h.1 t 7).toInt64 x.2.2.1 x.2.2.2).1 (hrd (hq (nuN h u i)) (h.1 t 8).toInt64 (hrd (hp (nuN h u i)) (h.1 t 7).toInt64 x.2.2.1 x.2.2.2).2.1 (hrd (hp (nuN h u i)) (h.1 t 7).toInt64 x.2.2.1 x.2.2.2).2.2).1) s') 1 (s', x.2.1 + sc1 (h.1 83) (mg (hrd (hp (nuN h u i)) (h.1 t 7).toInt64 x.2.2.1 x.2.2.2).1 (hrd (hq (nuN h u i)) (h.1 t 8).toInt64 (hrd (hp (nuN h u i)) (h.1 t 7).toInt64 x.2.2.1 x.2.2.2).2.1 (hrd (hp (nuN h u i)) (h.1 t 7).toInt64 x.2.2.1 x.2.2.2).2.2).1), (hrd (hq (nuN h u i)) (h.1 t 8).toInt64 (hrd (hp (nuN h u i)) (h.1 t 7).toInt64 x.2.2.1 x.2.2.2).2.1 (hrd (hp (nuN h u i)) (h.1 t 7).toInt64 x.2.2.1 x.2.2.2).2.2).2) (v_try1 (d := d) g2R ht g0 a4 ge4 hrm t3 (fun k hk => by rw [g2q (t + 2) (by omega), g2q 83 (by decide)]; exact h14 k hk) hs) rfl (fun q hq => by rw [hT_q hq]; exact g2q q hq) hT_0 (st_do_K a4 hs t3) (by rw [hT_1, g1', g2q 83 (by decide)]) r5 (by rw [hT_3]; exact r6) ?_
      simp only [drw, hs]
end OPS
