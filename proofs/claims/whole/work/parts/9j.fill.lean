/-! In how many ways: the reference's, and the pairs ways, how. -/
def wF (g h : xm_H) : Prop := g.2.2 = h.2.2 ∧ (∀ q, q ≠ 82 → q ≠ 89 → q ≠ 91 → q ≠ 95 → g.1 q = h.1 q) ∧ (∀ x, x ≠ 15 → x ≠ 16 → x ≠ 23 → x ≠ 24 → x ≠ 25 → g.1 82 x = h.1 82 x) ∧ (∀ q, q ≠ 93 → q ≠ 94 → g.2.1 q = h.2.1 q)
theorem Rel.wF {SI : (Nat → Nat → Int32) → (Nat → Nat → Int64) → Prop} {g h : xm_H} (hr : Rel SI h) (a : wF g h) : Rel SI g :=
  hr.frame a.1 (fun q hq => a.2.1 q (by unfold rl_cell at hq; omega) (by unfold rl_cell at hq; omega) (by unfold rl_cell at hq; omega) (by unfold rl_cell at hq; omega)) (fun q hq => a.2.2.2 q (by unfold rl_cell at hq; omega) (by unfold rl_cell at hq; omega)) (fun j _ => by rw [a.2.1 1 (by decide) (by decide) (by decide) (by decide)]) (fun j hj => a.2.2.1 j (by omega) (by omega) (by omega) (by omega) (by omega))
def fW (g h : xm_H) : Prop := g.2.2 = h.2.2 ∧ (∀ q, q ≠ 95 → g.1 q = h.1 q) ∧ (∀ q, q ≠ 93 → q ≠ 94 → g.2.1 q = h.2.1 q)
theorem fW.tr {a b e : xm_H} (h1 : fW a b) (h2 : fW b e) : fW a e := ⟨h1.1.trans h2.1, fun q hq => (h1.2.1 q hq).trans (h2.2.1 q hq), fun q q1 q2 => (h1.2.2 q q1 q2).trans (h2.2.2 q q1 q2)⟩
theorem fW.l {g h : xm_H} (a : fW g h) {p x : Nat} {v : Int64} (hp : p = 93 ∨ p = 94) : fW (xm_sl g p x v) h := ⟨a.1, a.2.1, fun q q1 q2 => (xm_ln (by omega)).trans (a.2.2 q q1 q2)⟩
theorem fW.i {g h : xm_H} (a : fW g h) {x : Nat} {v : Int32} : fW (xm_si g 95 x v) h := ⟨a.1, fun q hq => (xm_rn hq).trans (a.2.1 q hq), a.2.2⟩
theorem m13 {s : St} : (13 : Int32) * st_M s = nI (13 * mdn s) := nm_mul 13 (mdn s)
theorem m13_in {s : St} {l : Nat} (h : st_K s) (hl : l < 13) : ¬ (nI (13 * mdn s + l) < 0 ∨ 1560650 ≤ (nI (13 * mdn s + l)).toNatClampNeg) := by
  have := mdn_lt h
  exact nI_in (by omega) (by decide)
section OPS
variable {L : Nat} {xs : Nat → Int32} {d : Nat} {t : Nat} {s0 G : St} {N rm : Nat} {Q : Nat → St} {par mv dep F : Nat → Nat}
/-- what the reference counted: n moves, and what can be at all in so many and fewer -/
def RW (rm : Nat) (G : St) (l N : Nat) (Q : Nat → St) (g : xm_H) : Prop := (∀ j, j < N → g.2.1 93 (mdn (Q j)) = lN (wS (nx10 1023 rm 60) G l (Q j))) ∧ (∀ j m, j < N → m ≤ l → g.1 95 (13 * mdn (Q j) + m) = bI (pW (nx10 1023 rm 60) G (Q j) m))
theorem mv_op {z : xm_H} {s : St} {k : Nat} (hK : st_K s) (hrm : rm ≤ 60) (e15 : z.1 82 15 = nI rm) (e16 : z.1 82 16 = 0) (hk : k < 10) : F_X11_moved z t (st_M s) (nI k) = opM (nx10 1023 rm 60 k s) := by
  rw [cm_opM hK (by omega) e16 e15 (by omega), nx10_e hk, nxC_all hK hk]
theorem r_fstep {h : xm_H} {l n : Nat} (hR : h.2.2 = xm_R0 t) (ht : t = 5 ∨ t = 13) (hrm : rm ≤ 60) (e15 : h.1 82 15 = nI rm) (e16 : h.1 82 16 = 0) (hB : BF (nx10 1023 rm 60) s0 N Q par mv dep) (hK : ∀ j, j < N → st_K (Q j)) (hQ : RQ N Q F h.1) (hl : l < n) (hn : n ≤ 12) (hW : RW rm G l N Q h) : ∃ g, fW g h ∧ RW rm G (l + 1) N Q g ∧ ∀ ro ho, (∀ l4 l5 l6, xm_E (xm_X0 L xs) xm_P (d + 9) co_X11_fillWays 56 [some (.ref 82), some (.int (nI n)), some (.int (st_M G)), some (.int (nI (l + 2))), l4, l5, l6] [] g ro ho) → ∀ l4 l5 l6, xm_E (xm_X0 L xs) xm_P (d + 9) co_X11_fillWays 56 [some (.ref 82), some (.int (nI n)), some (.int (st_M G)), some (.int (nI (l + 1))), l4, l5, l6] [] h ro ho := by
  have hN := md_len hK hB.2.2.2.1
  have inj : ∀ i j, i < N → j < N → mdn (Q i) = mdn (Q j) → i = j := fun i j hi hj e => hB.2.2.2.1 i j hi hj (mdn_inj (hK i hi) (hK j hj) e)
  have t13 := ten12 (show l + 1 ≤ 12 by omega)
  have row : ∀ i, i < N → ∀ m k (g : xm_H), m + k = 10 → fW g h → g.2.1 93 = h.2.1 93 → g.2.1 94 (mdn (Q i)) = lN (sm (wv (nx10 1023 rm 60) (wS (nx10 1023 rm 60) G l) (Q i)) k) → ∃ g', fW g' h ∧ g'.2.1 93 = h.2.1 93 ∧ g'.1 95 = g.1 95 ∧ (∀ x, x ≠ mdn (Q i) → g'.2.1 94 x = g.2.1 94 x) ∧ g'.2.1 94 (mdn (Q i)) = lN (wS (nx10 1023 rm 60) G (l + 1) (Q i)) ∧ ∀ ro ho, xm_E (xm_X0 L xs) xm_P (d + 9) co_X11_fillWays 77 [some (.ref 82), some (.int (nI n)), some (.int (st_M G)), some (.int (nI (l + 1))), some (.int (nI i)), some (.int (st_M (Q i))), some (.int (nI 10))] [] g' ro ho → xm_E (xm_X0 L xs) xm_P (d + 9) co_X11_fillWays 77 [some (.ref 82), some (.int (nI n)), some (.int (st_M G)), some (.int (nI (l + 1))), some (.int (nI i)), some (.int (st_M (Q i))), some (.int (nI k))] [] g ro ho := by
    intro i hi m
    induction m with
    | zero =>
      intro k g hm hg g93 g94
      have hk : k = 10 := by omega
      subst hk
      exact ⟨g, hg, g93, rfl, fun _ _ => rfl, g94, fun ro ho K => K⟩
    | succ m ih =>
      intro k g hm hg g93 g94
      have hk : k < 10 := by omega
      have gR : g.2.2 = xm_R0 t := by rw [hg.1]; exact hR
      have c0 : ¬ ((10 : Int32) ≤ nI k) := nI_ge (b := 10) hk (by decide)
      have c1 := mdn_in (hK i hi)
      have em := mv_op (t := t) (z := g) (k := k) (hK i hi) hrm (by rw [hg.2.1 82 (by decide)]; exact e15) (by rw [hg.2.1 82 (by decide)]; exact e16) hk
      cases hnx : nx10 1023 rm 60 k (Q i) with
      | none =>
        rw [hnx] at em
        have ev : g.2.1 94 (mdn (Q i)) + (0 : Int64) = lN (sm (wv (nx10 1023 rm 60) (wS (nx10 1023 rm 60) G l) (Q i)) (k + 1)) := by
          simp only [sm]
          rw [wv_n hnx, g94, Nat.add_zero, Int64.add_zero]
        obtain ⟨g', r1, r2, r3, r4, r5, r6⟩ := ih (k + 1) (xm_sl g 94 (mdn (Q i)) (lN (sm (wv (nx10 1023 rm 60) (wS (nx10 1023 rm 60) G l) (Q i)) (k + 1)))) (by omega) (hg.l (Or.inr rfl)) (by rw [xm_ln (by decide)]; exact g93) xm_la
        refine ⟨g', r1, r2, r3, fun x hx => (r4 x hx).trans (xm_lj hx), r5, fun ro ho K => s_X11_fillWays_77_2 (d := d + 2) gR ht c0 c1 em ?_⟩
        rw [mdn_cl (hK i hi), ev, nI_1]
        exact r6 ro ho K
      | some u =>
        rw [hnx] at em
        obtain ⟨x, x1, x2, -⟩ := hB.edge hi hk hnx
        have eo : opM (some u) = st_M (Q x) := by rw [x2]; rfl
        rw [eo] at em
        have ev : g.2.1 94 (mdn (Q i)) + g.2.1 93 (mdn (Q x)) = lN (sm (wv (nx10 1023 rm 60) (wS (nx10 1023 rm 60) G l) (Q i)) (k + 1)) := by
          simp only [sm]
          rw [wv_s hnx, g94, g93, hW.1 x x1, lN_add, x2]
        obtain ⟨g', r1, r2, r3, r4, r5, r6⟩ := ih (k + 1) (xm_sl g 94 (mdn (Q i)) (lN (sm (wv (nx10 1023 rm 60) (wS (nx10 1023 rm 60) G l) (Q i)) (k + 1)))) (by omega) (hg.l (Or.inr rfl)) (by rw [xm_ln (by decide)]; exact g93) xm_la
        refine ⟨g', r1, r2, r3, fun x hx => (r4 x hx).trans (xm_lj hx), r5, fun ro ho K => s_X11_fillWays_77_3 (d := d + 2) gR ht c0 c1 (by rw [em]; exact n1_ne (Nat.lt_trans (mdn_lt (hK x x1)) (by decide))) (by rw [em]; exact mdn_in (hK x x1)) ?_⟩
        rw [em, mdn_cl (hK i hi), mdn_cl (hK x x1), ev, nI_1]
        exact r6 ro ho K
  have loop1 : ∀ m i (g : xm_H), m + i = N → fW g h → g.2.1 93 = h.2.1 93 → (∀ j, j < i → g.2.1 94 (mdn (Q j)) = lN (wS (nx10 1023 rm 60) G (l + 1) (Q j)) ∧ g.1 95 (13 * mdn (Q j) + (l + 1)) = bI (pW (nx10 1023 rm 60) G (Q j) (l + 1))) → (∀ j m, j < N → m ≤ l → g.1 95 (13 * mdn (Q j) + m) = bI (pW (nx10 1023 rm 60) G (Q j) m)) → ∃ g', fW g' h ∧ (∀ j, j < N → g'.2.1 94 (mdn (Q j)) = lN (wS (nx10 1023 rm 60) G (l + 1) (Q j))) ∧ (∀ j m, j < N → m ≤ l + 1 → g'.1 95 (13 * mdn (Q j) + m) = bI (pW (nx10 1023 rm 60) G (Q j) m)) ∧ ∀ ro ho, (∀ l5 l6, xm_E (xm_X0 L xs) xm_P (d + 9) co_X11_fillWays 126 [some (.ref 82), some (.int (nI n)), some (.int (st_M G)), some (.int (nI (l + 1))), some (.int (0 : Int32)), l5, l6] [] g' ro ho) → ∀ l5 l6, xm_E (xm_X0 L xs) xm_P (d + 9) co_X11_fillWays 61 [some (.ref 82), some (.int (nI n)), some (.int (st_M G)), some (.int (nI (l + 1))), some (.int (nI i)), l5, l6] [] g ro ho := by
    intro m
    induction m with
    | zero =>
      intro i g hm hg g93 hz hy
      have hi : i = N := by omega
      subst hi
      refine ⟨g, hg, fun j hj => (hz j hj).1, fun j m hj hm' => ?_, fun ro ho K l5 l6 => s_X11_fillWays_61_0 (d := d + 2) (by rw [hg.2.1 82 (by decide), hQ.1]; exact nI_le (Nat.le_refl _) (by omega)) (K _ _)⟩
      by_cases e : m = l + 1
      · rw [e]; exact (hz j hj).2
      · exact hy j m hj (by omega)
    | succ m ih =>
      intro i g hm hg g93 hz hy
      have hi : i < N := by omega
      have gR : g.2.2 = xm_R0 t := by rw [hg.1]; exact hR
      have c0 : ¬ (g.1 82 23 ≤ nI i) := by rw [hg.2.1 82 (by decide), hQ.1]; exact nI_ge hi (by omega)
      have c1 : ¬ (nI i < 0 ∨ 120050 ≤ (nI i).toNatClampNeg) := nI_in (by omega) (by decide)
      have e91 : g.1 91 (nI i).toNatClampNeg = st_M (Q i) := by rw [nI_clamp (by omega), hg.2.1 91 (by decide)]; exact hQ.2.1 i hi
      obtain ⟨g1, r1, r2, r3, r4, r5, r6⟩ := row i hi 10 0 (xm_sl g 94 (mdn (Q i)) (0 : Int64)) rfl (hg.l (Or.inr rfl)) (by rw [xm_ln (by decide)]; exact g93) xm_la
      have g1R : g1.2.2 = xm_R0 t := by rw [r1.1]; exact hR
      have g195 : g1.1 95 = g.1 95 := r3
      have wb := wS_b (nx := nx10 1023 rm 60) (G := G) (l + 1) (Q i)
      have eix : (13 : Int32) * st_M (Q i) + nI (l + 1) = nI (13 * mdn (Q i) + (l + 1)) := by rw [m13, nI_add]
      have c3 : ¬ ((13 : Int32) * st_M (Q i) + nI (l + 1) < 0 ∨ 1560650 ≤ ((13 : Int32) * st_M (Q i) + nI (l + 1)).toNatClampNeg) := by rw [eix]; exact m13_in (hK i hi) (by omega)
      have hml := mdn_lt (hK i hi)
      have ecl : ((13 : Int32) * st_M (Q i) + nI (l + 1)).toNatClampNeg = 13 * mdn (Q i) + (l + 1) := by rw [eix]; exact nI_clamp (by omega)
      obtain ⟨g', p1, p2, p3, p4⟩ := ih (i + 1) (xm_si g1 95 (13 * mdn (Q i) + (l + 1)) (bI (pW (nx10 1023 rm 60) G (Q i) (l + 1)))) (by omega) r1.i r2 (fun j hj => by
        rw [xm_rf]
        show g1.2.1 94 (mdn (Q j)) = _ ∧ _
        by_cases e : j = i
        · rw [e, fu_a]
          exact ⟨r5, rfl⟩
        · have ne : mdn (Q j) ≠ mdn (Q i) := fun q => e (inj j i (by omega) hi q)
          rw [fu_k (by omega), r4 _ ne, xm_lj ne, g195]
          exact hz j (by omega)) (fun j m hj hm' => by
        rw [xm_rf, fu_k (by omega), g195]
        exact hy j m hj hm')
      refine ⟨g', p1, p2, p3, fun ro ho K l5 l6 => s_X11_fillWays_61_1 (d := d + 2) gR ht c0 c1 (by rw [e91]; exact mdn_in (hK i hi)) ?_⟩
      rw [e91, mdn_cl (hK i hi)]
      refine r6 ro ho ?_
      by_cases q : wS (nx10 1023 rm 60) G (l + 1) (Q i) = 0
      · have pf : pW (nx10 1023 rm 60) G (Q i) (l + 1) = false := decide_eq_false (by omega)
        rw [pf] at p4
        refine s_X11_fillWays_77_0 (d := d + 2) g1R ht (by decide) (mdn_in (hK i hi)) (by rw [mdn_cl (hK i hi), r5]; exact (lv_z (by omega)).mpr q) c3 ?_
        rw [ecl, nI_1]
        exact p4 ro ho K _ _
      · have pf : pW (nx10 1023 rm 60) G (Q i) (l + 1) = true := decide_eq_true (by omega)
        rw [pf] at p4
        refine s_X11_fillWays_77_1 (d := d + 2) g1R ht (by decide) (mdn_in (hK i hi)) (by rw [mdn_cl (hK i hi), r5]; exact fun z => q ((lv_z (by omega)).mp z)) c3 ?_
        rw [ecl, nI_1]
        exact p4 ro ho K _ _
  have loop2 : ∀ m i (g : xm_H), m + i = N → fW g h → (∀ j, j < N → g.2.1 94 (mdn (Q j)) = lN (wS (nx10 1023 rm 60) G (l + 1) (Q j))) → (∀ j, j < i → g.2.1 93 (mdn (Q j)) = lN (wS (nx10 1023 rm 60) G (l + 1) (Q j))) → (∀ j m, j < N → m ≤ l + 1 → g.1 95 (13 * mdn (Q j) + m) = bI (pW (nx10 1023 rm 60) G (Q j) m)) → ∃ g', fW g' h ∧ RW rm G (l + 1) N Q g' ∧ ∀ ro ho, (∀ l4 l5 l6, xm_E (xm_X0 L xs) xm_P (d + 9) co_X11_fillWays 56 [some (.ref 82), some (.int (nI n)), some (.int (st_M G)), some (.int (nI (l + 2))), l4, l5, l6] [] g' ro ho) → ∀ l5 l6, xm_E (xm_X0 L xs) xm_P (d + 9) co_X11_fillWays 126 [some (.ref 82), some (.int (nI n)), some (.int (st_M G)), some (.int (nI (l + 1))), some (.int (nI i)), l5, l6] [] g ro ho := by
    intro m
    induction m with
    | zero =>
      intro i g hm hg h94 h93 h95
      have hi : i = N := by omega
      subst hi
      refine ⟨g, hg, ⟨h93, h95⟩, fun ro ho K l5 l6 => s_X11_fillWays_126_0 (d := d + 2) (by rw [hg.2.1 82 (by decide), hQ.1]; exact nI_le (Nat.le_refl _) (by omega)) ?_⟩
      rw [nI_1]
      exact K _ _ _
    | succ m ih =>
      intro i g hm hg h94 h93 h95
      have hi : i < N := by omega
      have gR : g.2.2 = xm_R0 t := by rw [hg.1]; exact hR
      have c0 : ¬ (g.1 82 23 ≤ nI i) := by rw [hg.2.1 82 (by decide), hQ.1]; exact nI_ge hi (by omega)
      have c1 : ¬ (nI i < 0 ∨ 120050 ≤ (nI i).toNatClampNeg) := nI_in (by omega) (by decide)
      have e91 : g.1 91 (nI i).toNatClampNeg = st_M (Q i) := by rw [nI_clamp (by omega), hg.2.1 91 (by decide)]; exact hQ.2.1 i hi
      obtain ⟨g', p1, p2, p3⟩ := ih (i + 1) (xm_sl g 93 (mdn (Q i)) (g.2.1 94 (mdn (Q i)))) (by omega) (hg.l (Or.inl rfl)) (fun j hj => by rw [xm_ln (by decide)]; exact h94 j hj) (fun j hj => by
        rw [xm_lf]
        by_cases e : j = i
        · rw [e, fu_a]; exact h94 i hi
        · rw [fu_k (fun q => e (inj j i (by omega) hi q))]
          exact h93 j (by omega)) h95
      refine ⟨g', p1, p2, fun ro ho K l5 l6 => s_X11_fillWays_126_1 (d := d + 2) gR ht c0 c1 (by rw [e91]; exact mdn_in (hK i hi)) ?_⟩
      rw [e91, mdn_cl (hK i hi), nI_1]
      exact p3 ro ho K _ _
  obtain ⟨g1, a1, a2, a3, a4⟩ := loop1 N 0 h rfl ⟨rfl, fun _ _ => rfl, fun _ _ _ => rfl⟩ rfl (fun j hj => absurd hj (Nat.not_lt_zero _)) hW.2
  obtain ⟨g2, b1, b2, b3⟩ := loop2 N 0 g1 rfl a1 a2 (fun j hj => absurd hj (Nat.not_lt_zero _)) a3
  exact ⟨g2, b1, b2, fun ro ho K l4 l5 l6 => s_X11_fillWays_56_1 (d := d + 2) (nI_nlt (by omega) (by omega)) (a4 ro ho (fun l5 l6 => b3 ro ho K l5 l6) _ _)⟩
theorem r_fill {h : xm_H} {cn n A B : Nat} {s : St} (hR : h.2.2 = xm_R0 t) (ht : t = 5 ∨ t = 13) (hN : NOW h cn s) (hrm : rm ≤ 60) (er : h.1 83 3 = nI rm) (eA : h.1 83 0 = nI A) (eB : h.1 83 1 = nI B) (hK0 : st_K (A, B, 0, 0, 2)) (hB : BF (nx10 1023 rm 60) (A, B, 0, 0, 2) N Q par mv dep) (hK : ∀ j, j < N → st_K (Q j)) (hKG : st_K G) (hn : n ≤ 12) : ∃ g, xm_V (xm_X0 L xs) xm_P (d + 10) 285 [.ref 82, .int (nI n), .int (st_M G)] h none g ∧ wF g h ∧ RW rm G n N Q g ∧ g.1 82 15 = nI rm ∧ g.1 82 16 = 0 := by
  have eF : F_X11_firstState (xm_si (xm_si (rf_n h) 82 24 (-1 : Int32)) 82 25 (0 : Int32)) t = st_M (A, B, 0, 0, 2) := by
    unfold F_X11_firstState
    rw [xm_rn (by decide), xm_rn (by decide), rf_n83]
    exact cm_st2 eA eB rfl rfl tw00
  obtain ⟨k15, k16, k24, k25⟩ := srH_82 (h := h) (l1 := nI rm) (l2 := 0) (l3 := -1) (l4 := bJ false)
  have v15 : (xm_si (xm_si (rf_n h) 82 24 (-1 : Int32)) 82 25 (0 : Int32)).1 82 15 = nI rm := by
    rw [xm_rk (by decide), xm_rk (by decide), rf_n15]
    exact er
  have v16 : (xm_si (xm_si (rf_n h) 82 24 (-1 : Int32)) 82 25 (0 : Int32)).1 82 16 = 0 := by rw [xm_rk (by decide), xm_rk (by decide), rf_n16]
  have hM : MD t 10 (nx10 1023 rm 60) (cs (h.1 83) false) (xm_si (xm_si (rf_n h) 82 24 (-1 : Int32)) 82 25 (0 : Int32)) := (MD_moves (h := h) (t := t) (b := false) hrm hN.2.2.2.2.2.2.2.1).go ⟨by rw [srH_83, xm_rn (by decide), xm_rn (by decide), rf_n83], fun j hj => by
    rcases hj with rfl | rfl | rfl | rfl
    · rw [k15]; exact v15
    · rw [k16]; exact v16
    · rw [k24, xm_rk (by decide), xm_ra]
    · rw [k25, xm_ra]
      rfl⟩
  obtain ⟨g0, N', Q', par', mv', dep', F, V, a1, a2, a3, a4, -⟩ := v_spreads (L := L) (xs := xs) (d := d) (h := xm_si (xm_si (rf_n h) 82 24 (-1 : Int32)) 82 25 (0 : Int32)) ht hR hM hK0
  have g0R : g0.2.2 = xm_R0 t := by rw [a1.1]; exact hR
  have eN := hB.same a2
  subst eN
  have hQ : RQ N' Q F g0.1 := ⟨a4.1, fun j hj => by rw [← (hB.same1 a2 j hj).2.1]; exact a4.2.1 j hj, fun j hj => by rw [← (hB.same1 a2 j hj).2.1]; exact a4.2.2 j hj⟩
  have e15 : g0.1 82 15 = nI rm := (a1.2.2 15 (by decide)).trans v15
  have e16 : g0.1 82 16 = 0 := (a1.2.2 16 (by decide)).trans v16
  have hN' := md_len hK hB.2.2.2.1
  have inj : ∀ i j, i < N' → j < N' → mdn (Q i) = mdn (Q j) → i = j := fun i j hi hj e => hB.2.2.2.1 i j hi hj (mdn_inj (hK i hi) (hK j hj) e)
  have init : ∀ m i (g : xm_H), m + i = N' → fW g g0 → (∀ j, j < i → g.2.1 93 (mdn (Q j)) = lN (wS (nx10 1023 rm 60) G 0 (Q j)) ∧ g.1 95 (13 * mdn (Q j)) = bI (pW (nx10 1023 rm 60) G (Q j) 0)) → ∃ g', fW g' g0 ∧ RW rm G 0 N' Q g' ∧ ∀ ro ho, xm_E (xm_X0 L xs) xm_P (d + 9) co_X11_fillWays 56 [some (.ref 82), some (.int (nI n)), some (.int (st_M G)), some (.int (1 : Int32)), none, none, none] [] g' ro ho → xm_E (xm_X0 L xs) xm_P (d + 9) co_X11_fillWays 14 [some (.ref 82), some (.int (nI n)), some (.int (st_M G)), some (.int (nI i)), none, none, none] [] g ro ho := by
    intro m
    induction m with
    | zero =>
      intro i g hm hg hz
      have hi : i = N' := by omega
      subst hi
      refine ⟨g, hg, ⟨fun j hj => (hz j hj).1, fun j m hj hm' => ?_⟩, fun ro ho K => s_X11_fillWays_14_0 (d := d + 2) (by rw [hg.2.1 82 (by decide), hQ.1]; exact nI_le (Nat.le_refl _) (by omega)) K⟩
      have : m = 0 := by omega
      subst this
      exact (hz j hj).2
    | succ m ih =>
      intro i g hm hg hz
      have hi : i < N' := by omega
      have gR : g.2.2 = xm_R0 t := by rw [hg.1]; exact g0R
      have c0 : ¬ (g.1 82 23 ≤ nI i) := by rw [hg.2.1 82 (by decide), hQ.1]; exact nI_ge hi (by omega)
      have c1 : ¬ (nI i < 0 ∨ 120050 ≤ (nI i).toNatClampNeg) := nI_in (by omega) (by decide)
      have e91 : g.1 91 (nI i).toNatClampNeg = st_M (Q i) := by rw [nI_clamp (by omega), hg.2.1 91 (by decide)]; exact hQ.2.1 i hi
      have c3 : ¬ (g.1 91 (nI i).toNatClampNeg < 0 ∨ 120050 ≤ (g.1 91 (nI i).toNatClampNeg).toNatClampNeg) := by rw [e91]; exact mdn_in (hK i hi)
      have hml := mdn_lt (hK i hi)
      have c5 : ¬ ((13 : Int32) * (g.1 91 (nI i).toNatClampNeg) < 0 ∨ 1560650 ≤ ((13 : Int32) * (g.1 91 (nI i).toNatClampNeg)).toNatClampNeg) := by rw [e91, m13]; exact nI_in (by omega) (by decide)
      have ecl : ((13 : Int32) * st_M (Q i)).toNatClampNeg = 13 * mdn (Q i) := by rw [m13]; exact nI_clamp (by omega)
      have go : ∀ v b, wS (nx10 1023 rm 60) G 0 (Q i) = v → pW (nx10 1023 rm 60) G (Q i) 0 = b → ∃ g', fW g' g0 ∧ RW rm G 0 N' Q g' ∧ ∀ ro ho, xm_E (xm_X0 L xs) xm_P (d + 9) co_X11_fillWays 56 [some (.ref 82), some (.int (nI n)), some (.int (st_M G)), some (.int (1 : Int32)), none, none, none] [] g' ro ho → xm_E (xm_X0 L xs) xm_P (d + 9) co_X11_fillWays 14 [some (.ref 82), some (.int (nI n)), some (.int (st_M G)), some (.int (nI (i + 1))), none, none, none] [] (xm_si (xm_sl g 93 (mdn (Q i)) (lN v)) 95 (13 * mdn (Q i)) (bI b)) ro ho := by
        intro v b w1 w2
        refine ih (i + 1) _ (by omega) (hg.l (Or.inl rfl)).i (fun j hj => ?_)
        rw [xm_rf]
        show (xm_sl g 93 (mdn (Q i)) (lN v)).2.1 93 (mdn (Q j)) = _ ∧ _
        rw [xm_lf]
        by_cases e : j = i
        · rw [e, fu_a, fu_a, w1, w2]
          exact ⟨rfl, rfl⟩
        · have ne : mdn (Q j) ≠ mdn (Q i) := fun q => e (inj j i (by omega) hi q)
          rw [fu_k ne, fu_k (by omega)]
          exact hz j (by omega)
      by_cases q : Q i = G
      · have w1 : wS (nx10 1023 rm 60) G 0 (Q i) = 1 := if_pos q
        obtain ⟨g', r1, r2, r3⟩ := go 1 true w1 (decide_eq_true (by omega))
        have cq1 : g.1 91 (nI i).toNatClampNeg = st_M G := by rw [e91, q]
        refine ⟨g', r1, r2, fun ro ho K => s_X11_fillWays_14_1 (d := d + 2) gR ht c0 c1 cq1 c3 cq1 c5 ?_⟩
        rw [xm_rl, e91, mdn_cl (hK i hi), ecl, nI_1]
        exact r3 ro ho K
      · have w1 : wS (nx10 1023 rm 60) G 0 (Q i) = 0 := if_neg q
        obtain ⟨g', r1, r2, r3⟩ := go 0 false w1 (decide_eq_false (by omega))
        have cq1 : ¬ g.1 91 (nI i).toNatClampNeg = st_M G := by
          rw [e91]
          intro e
          have h1 := mdn_lt (hK i hi)
          have h2 := mdn_lt hKG
          exact q (mdn_inj (hK i hi) hKG ((nI_eq (by omega) (by omega)).mp e))
        refine ⟨g', r1, r2, fun ro ho K => s_X11_fillWays_14_4 (d := d + 2) gR ht c0 c1 cq1 c3 cq1 c5 ?_⟩
        rw [xm_rl, e91, mdn_cl (hK i hi), ecl, nI_1]
        exact r3 ro ho K
  have loop : ∀ m l (g : xm_H), m + l = n → fW g g0 → RW rm G l N' Q g → ∃ g', fW g' g0 ∧ RW rm G n N' Q g' ∧ ∀ l4 l5 l6, xm_E (xm_X0 L xs) xm_P (d + 9) co_X11_fillWays 56 [some (.ref 82), some (.int (nI n)), some (.int (st_M G)), some (.int (nI (l + 1))), l4, l5, l6] [] g none g' := by
    intro m
    induction m with
    | zero =>
      intro l g hm hg hW
      have hl : l = n := by omega
      subst hl
      exact ⟨g, hg, hW, fun l4 l5 l6 => s_X11_fillWays_56_0 (d := d + 2) (nI_lt (by omega) (by omega))⟩
    | succ m ih =>
      intro l g hm hg hW
      obtain ⟨g1, b1, b2, b3⟩ := r_fstep (L := L) (xs := xs) (d := d) (n := n) (by rw [hg.1]; exact g0R) ht hrm (by rw [hg.2.1 82 (by decide)]; exact e15) (by rw [hg.2.1 82 (by decide)]; exact e16) hB hK (F := F) ⟨by rw [hg.2.1 82 (by decide)]; exact hQ.1, fun j hj => by rw [hg.2.1 91 (by decide)]; exact hQ.2.1 j hj, fun j hj => by rw [hg.2.1 89 (by decide)]; exact hQ.2.2 j hj⟩ (by omega) hn hW
      obtain ⟨g', r1, r2, r3⟩ := ih (l + 1) g1 (by omega) (b1.tr hg) b2
      exact ⟨g', r1, r2, b3 _ _ (fun l4 l5 l6 => r3 l4 l5 l6)⟩
  obtain ⟨g1, b1, b2, b3⟩ := init N' 0 g0 rfl ⟨rfl, fun _ _ => rfl, fun _ _ _ => rfl⟩ (fun j hj => absurd hj (Nat.not_lt_zero _))
  obtain ⟨g2, c1, c2, c3⟩ := loop n 0 g1 (by omega) b1 b2
  refine ⟨g2, v_X11_fillWays (d := d + 9) (s_X11_fillWays_0_0 (d := d + 2) ht (v_X11_asTold (d := d + 8) (s_X11_asTold_0_0 (d := d + 1) hR ht)) (show (rf_n h).2.2 = xm_R0 t from hR) (h2 := g0) ?_ (b3 _ _ (c3 _ _ _))), ⟨?_, fun q q1 q2 q3 q4 => ?_, fun x x1 x2 x3 x4 x5 => ?_, fun q q1 q2 => ?_⟩, c2, (by rw [c1.2.1 82 (by decide)]; exact e15), (by rw [c1.2.1 82 (by decide)]; exact e16)⟩
  · show xm_V (xm_X0 L xs) xm_P (d + 9) 261 [.ref 82, .int (F_X11_firstState (xm_si (xm_si (rf_n h) 82 24 (-1 : Int32)) 82 25 (0 : Int32)) t)] (xm_si (xm_si (rf_n h) 82 24 (-1 : Int32)) 82 25 (0 : Int32)) none g0
    rw [eF]
    exact V
  · rw [c1.1, a1.1]
    rfl
  · rw [c1.2.1 q q4, a1.2.1 q q1 q2 q3, xm_rn q1, xm_rn q1, rf_nq h q1]
  · rw [c1.2.1 82 (by decide), a1.2.2 x x3, xm_rk x5, xm_rk x4, rf_nk h x1 x2]
  · rw [c1.2.2 q q1 q2, a1.1]
    rfl
theorem wF.rf {h : xm_H} {g : xm_H} (a : wF g (rf_n h)) : wF g h := ⟨a.1, fun q q1 q2 q3 q4 => (a.2.1 q q1 q2 q3 q4).trans (rf_nq h q1), fun x x1 x2 x3 x4 x5 => (a.2.2.1 x x1 x2 x3 x4 x5).trans (rf_nk h x1 x2), a.2.2.2⟩
theorem r_hwalk {g : xm_H} {n i : Nat} {l3 : Int32} (hR : g.2.2 = xm_R0 t) (ht : t = 5 ∨ t = 13) (hrm : rm ≤ 60) (e15 : g.1 82 15 = nI rm) (e16 : g.1 82 16 = 0) (hB : BF (nx10 1023 rm 60) s0 N Q par mv dep) (hK : ∀ j, j < N → st_K (Q j)) (hn : n ≤ 12) (hW : RW rm G n N Q g) (hin : i < n) : ∀ m a lf j, a + m = i → a + lf + 1 = n → j < N → 0 < wS (nx10 1023 rm 60) G (lf + 1) (Q j) → ∃ k, HW (nx10 1023 rm 60) G m lf (Q j) k ∧ ∀ l5, xm_E (xm_X0 L xs) xm_P (d + 7) co_X11_how 50 [some (.ref 82), some (.int (nI n)), some (.int (nI i)), some (.int l3), some (.int (st_M (Q j))), some (.int l5), some (.int (nI a))] [] g (some (.int (nI k))) g := by
  have first : ∀ a lf j, a + lf + 1 = n → j < N → 0 < wS (nx10 1023 rm 60) G (lf + 1) (Q j) → ∃ k x, k < 10 ∧ x < N ∧ nx10 1023 rm 60 k (Q j) = some (Q x) ∧ 0 < wS (nx10 1023 rm 60) G lf (Q x) ∧ (∀ k', k' < k → ∀ u', nx10 1023 rm 60 k' (Q j) = some u' → wS (nx10 1023 rm 60) G lf u' = 0) ∧ ∀ ro ho, xm_E (xm_X0 L xs) xm_P (d + 7) co_X11_how 50 [some (.ref 82), some (.int (nI n)), some (.int (nI i)), some (.int l3), some (.int (st_M (Q x))), some (.int (nI k)), some (.int (nI (a + 1)))] [] g ro ho → xm_E (xm_X0 L xs) xm_P (d + 7) co_X11_how 55 [some (.ref 82), some (.int (nI n)), some (.int (nI i)), some (.int l3), some (.int (st_M (Q j))), some (.int (0 : Int32)), some (.int (nI a))] [] g ro ho := by
    intro a lf j hlf hj hp
    obtain ⟨kk, uu, e1, e2, e3⟩ := wS_pos hp
    obtain ⟨k, ⟨k1, u, k2, k3⟩, k4⟩ := least_of (p := fun k => k < 10 ∧ ∃ u, nx10 1023 rm 60 k (Q j) = some u ∧ 0 < wS (nx10 1023 rm 60) G lf u) kk ⟨e1, uu, e2, e3⟩
    have hno : ∀ k', k' < k → ∀ u', nx10 1023 rm 60 k' (Q j) = some u' → wS (nx10 1023 rm 60) G lf u' = 0 := fun k' hk' u' hu => by
      rcases Nat.eq_zero_or_pos (wS (nx10 1023 rm 60) G lf u') with q | q
      · exact q
      · have := k4 k' ⟨by omega, u', hu, q⟩
        omega
    obtain ⟨x, x1, x2, -⟩ := hB.edge hj k1 k2
    have mvd : ∀ k y, k < 10 → y < N → nx10 1023 rm 60 k (Q j) = some (Q y) → F_X11_moved g t (st_M (Q j)) (nI k) = st_M (Q y) ∧ (((13 : Int32) * st_M (Q y)) + nI n - nI a) - (1 : Int32) = nI (13 * mdn (Q y) + lf) := fun k y hk hy e => by
      have := mv_op (t := t) (z := g) (k := k) (hK j hj) hrm e15 e16 hk
      rw [e] at this
      refine ⟨this, ?_⟩
      rw [m13, nI_add, nm_sub (by omega), show (1 : Int32) = nI 1 from rfl, nm_sub (by omega)]
      congr 1
      omega
    have loop : ∀ m i', m + i' = k → ∀ ro ho, xm_E (xm_X0 L xs) xm_P (d + 7) co_X11_how 50 [some (.ref 82), some (.int (nI n)), some (.int (nI i)), some (.int l3), some (.int (st_M (Q x))), some (.int (nI k)), some (.int (nI (a + 1)))] [] g ro ho → xm_E (xm_X0 L xs) xm_P (d + 7) co_X11_how 55 [some (.ref 82), some (.int (nI n)), some (.int (nI i)), some (.int l3), some (.int (st_M (Q j))), some (.int (nI i')), some (.int (nI a))] [] g ro ho := by
      intro m
      induction m with
      | zero =>
        intro i' hm ro ho K
        have hi : i' = k := by omega
        subst hi
        obtain ⟨a1, a2⟩ := mvd i' x k1 x1 (by rw [x2]; exact k2)
        have hmx := mdn_lt (hK x x1)
        refine s_X11_how_55_2 (d := d) hR ht (by rw [a1]; exact n1_ne (Nat.lt_trans hmx (by decide))) (by rw [a1, a2]; exact m13_in (hK x x1) (by omega)) (by
          rw [a1, a2, nI_clamp (by omega), hW.2 x lf x1 (by omega)]
          exact bI_ne (decide_eq_true (by rw [x2]; exact k3))) ?_
        rw [a1, nI_1]
        exact K
      | succ m ih =>
        intro i' hm ro ho K
        have E := ih (i' + 1) (by omega) ro ho K
        rw [← nI_1] at E
        cases hnx : nx10 1023 rm 60 i' (Q j) with
        | none =>
          have := mv_op (t := t) (z := g) (k := i') (hK j hj) hrm e15 e16 (by omega)
          rw [hnx] at this
          exact s_X11_how_55_0 (d := d) hR ht this E
        | some u' =>
          obtain ⟨y, y1, y2, -⟩ := hB.edge hj (by omega) hnx
          obtain ⟨a1, a2⟩ := mvd i' y (by omega) y1 (by rw [y2]; exact hnx)
          have hmy := mdn_lt (hK y y1)
          refine s_X11_how_55_1 (d := d) hR ht (by rw [a1]; exact n1_ne (Nat.lt_trans hmy (by decide))) (by rw [a1, a2]; exact m13_in (hK y y1) (by omega)) (by
            rw [a1, a2, nI_clamp (by omega), hW.2 y lf y1 (by omega)]
            refine bI_z (decide_eq_false ?_)
            rw [y2, hno i' (by omega) u' hnx]
            exact Nat.lt_irrefl _) E
    exact ⟨k, x, k1, x1, by rw [x2]; exact k2, by rw [x2]; exact k3, hno, loop k 0 rfl⟩
  intro m
  induction m with
  | zero =>
    intro a lf j ha hlf hj hp
    obtain ⟨k, x, k1, x1, x2, x3, x4, x5⟩ := first a lf j hlf hj hp
    exact ⟨k, ⟨Q x, k1, x2, x3, x4⟩, fun l5 => s_X11_how_50_1 (d := d) (nI_nlt (by omega) (by omega)) (x5 _ _ (s_X11_how_50_0 (d := d) (nI_lt (by omega) (by omega))))⟩
  | succ m ih =>
    intro a lf j ha hlf hj hp
    obtain ⟨k, x, k1, x1, x2, x3, x4, x5⟩ := first a lf j hlf hj hp
    obtain ⟨k2, y1, y2⟩ := ih (a + 1) (lf - 1) x (by omega) (by omega) x1 (by rw [show lf - 1 + 1 = lf by omega]; exact x3)
    exact ⟨k2, ⟨k, Q x, k1, x2, x3, x4, y1⟩, fun l5 => s_X11_how_50_1 (d := d) (nI_nlt (by omega) (by omega)) (x5 _ _ (y2 _))⟩
theorem x_first {h : xm_H} {cn rm : Nat} {s : St} (hr : Rel SIs h) (hR : h.2.2 = xm_R0 t) (ht : t = 5 ∨ t = 13) (hN : NOW h cn s) (e1 : h.1 t 1 = h.1 83 0) (e2 : h.1 t 2 = h.1 83 1) (hrm : rm ≤ 60) (e4 : h.1 t 4 = nI rm) : ∃ (A B : Nat) (g : xm_H) (N : Nat) (Q : Nat → St) (par mv dep : Nat → Nat), st_K s ∧ st_K (A, B, 0, 0, 2) ∧ h.1 83 0 = nI A ∧ h.1 83 1 = nI B ∧ xm_V (xm_X0 L xs) xm_P (d + 12) 117 [.ref 0] h none g ∧ g.2 = h.2 ∧ (∀ q, (q < 61 ∨ 68 < q) → g.1 q = h.1 q) ∧ FC (nx10 1023 rm 60) (A, B, 0, 0, 2) N Q par mv dep g.1 ∧ Rel SIs g := by
  obtain ⟨A, B, hA, hB, hK, hU, hU0, hK0, eA, eB⟩ := hN.uS
  obtain ⟨g, N, P, Q, par, mv, dep, D, V, g2, gq, hF, hrg, -⟩ := x_explore (L := L) (xs := xs) (d := d) hr hR ht hA hB hK0 hU0 (al := 1023) (by decide) hrm (ar := 60) (Nat.le_refl _)
  have eF : F_X0_firstState h t = st_P (A, B, 0, 0, 2) := by
    unfold F_X0_firstState
    exact cx_st2 hK0 (by rw [e1]; exact eA) (by rw [e2]; exact eB) rfl rfl tw00
  exact ⟨A, B, g, N, Q, par, mv, dep, hK, hK0, eA, eB, v_X10_exploreFromFirst (d := d + 11) (s_X10_exploreFromFirst_0_0 (L := L) (xs := xs) (d := d + 4) (h := h) hR ht (by rw [eF, e4]; exact V)), g2, gq, hF, hrg⟩
theorem op_ways (a : Int32) : xm_opl (xm_X0 L xs) (d + 20) (Rel SIs) 115 284 [.int a] := by
  intro h hr
  obtain ⟨t, ht, hR, hw, hli, hwk⟩ := hr.opn
  by_cases hn : h.1 83 22 = 0
  · obtain ⟨q1, q2⟩ := ln_0 (t := t) hli.1 hn
    exact ⟨-2, h, h, v_X10_ways (d := d + 19) (s_X10_ways_0_2 (d := d + 12) hR ht (by rw [q1]; exact one_ne0)), v_X11_ways (d := d + 19) (s_X11_ways_0_0 (d := d + 12) hR ht q2), hr⟩
  · obtain ⟨q1, q2⟩ := ln_1 (t := t) hli.1 hw.1 hn
    have n2 : ∀ z : xm_H, z.1 83 = h.1 83 → ¬ F_X11_isLinen z t = 0 := fun z ez => by
      have : F_X11_isLinen z t = F_X11_isLinen h t := by
        unfold F_X11_isLinen
        rw [ez]
      rw [this, q2]
      exact one_ne0
    by_cases ha : nb a 0 12
    · have ca : ¬ F_X10_isWaysLength a = 0 := by rw [(x_isWaysLength a).1 ha]; exact one_ne0
      have ma : ¬ F_X11_in a.toInt64 (0 : Int64) (12 : Int64) = 0 := by rw [(in_0_12 a).1 ha]; exact one_ne0
      obtain ⟨n, -, hn12, rfl⟩ := ha
      obtain ⟨cn, s, rm, ar, hN, e3, hrm, er, e4, -⟩ := now_of hw hli hwk hn
      obtain ⟨A, B, g, N, Q, par, mv, dep, hK, hK0, eA, eB, V, g2, gq, hF, hrg⟩ := x_first (L := L) (xs := xs) (d := d + 7) hr hR ht hN hli.2.1 hli.2.2.1 hrm e4
      have gR : g.2.2 = xm_R0 t := by rw [g2]; exact hR
      have e83 : g.1 83 = h.1 83 := gq 83 (by omega)
      obtain ⟨y, Vw, y1, -⟩ := v_waysTo (L := L) (xs := xs) (d := d + 10) (n := n) gR ht hF hK hn12
      have yR : y.2.2 = xm_R0 t := by rw [y1.1]; exact gR
      have y83 : y.1 83 = h.1 83 := (y1.2.1 83 (by decide)).trans e83
      have hNy := hN.fr y83
      have hry := hrg.frC y1
      have VX := v_X10_ways (d := d + 19) (s_X10_ways_0_1 (L := L) (xs := xs) (d := d + 12) (h := h) hR ht q1 ca V gR (by rw [gq 3 (by omega), e3]; exact Vw))
      obtain ⟨b1, b2, b3, b4, b5, b6, b7, b8, b9⟩ := hNy
      have VN := v_now (L := L) (xs := xs) (d := d + 10) yR ht b1 b2 b3 b4 b5 b6 b7
      by_cases tw : s.2.2.2.2 = 2
      · obtain ⟨z, Vz, z1, z2, z3, z4⟩ := r_fill (L := L) (xs := xs) (d := d + 9) (h := rf_n y) (n := n) (G := s) (show (rf_n y).2.2 = xm_R0 t from yR) ht ((hN.fr y83).fr (rf_n83 y)) hrm (by rw [rf_n83, y83]; exact er) (by rw [rf_n83, y83]; exact eA) (by rw [rf_n83, y83]; exact eB) hK0 hF.1 hF.2.2.1 hK hn12
        have zR : z.2.2 = xm_R0 t := by rw [z1.1]; exact yR
        have zf := z1.rf
        have eF : F_X11_firstState z t = st_M (A, B, 0, 0, 2) := by
          unfold F_X11_firstState
          rw [zf.2.1 83 (by decide) (by decide) (by decide) (by decide), y83]
          exact cm_st2 eA eB rfl rfl tw00
        have K := v_X11_ways (d := d + 19) (s_X11_ways_0_2 (L := L) (xs := xs) (d := d + 12) yR ht (n2 y y83) ma VN (by rw [cm_twist hK]; exact (tw_eq hK.2.2.2.2).mpr tw) Vz zR (by rw [eF]; exact mdn_in hK0))
        rw [eF, mdn_cl hK0, show ((A, B, 0, 0, 2) : St) = Q 0 from hF.1.2.1.symm, z2.1 0 hF.1.1] at K
        exact ⟨_, y, z, VX, K, hry.wF zf⟩
      · have e0 : wS (nx10 1023 rm 60) s n (Q 0) = 0 := by
          rw [hF.1.2.1]
          exact wS_tw tw n _ rfl
        rw [e0] at VX
        refine ⟨0, y, rf_n y, VX, v_X11_ways (d := d + 19) (s_X11_ways_0_3 (L := L) (xs := xs) (d := d + 12) yR ht (n2 y y83) ma VN (by rw [cm_twist hK]; exact fun e => tw ((tw_eq hK.2.2.2.2).mp e))), hry.wF (wF.rf ⟨rfl, fun _ _ _ _ _ => rfl, fun _ _ _ _ _ _ => rfl, fun _ _ _ => rfl⟩)⟩
    · exact ⟨-2, h, h, v_X10_ways (d := d + 19) (s_X10_ways_0_0 (d := d + 12) hR ht q1 ((x_isWaysLength a).2 ha)), v_X11_ways (d := d + 19) (s_X11_ways_0_1 (d := d + 12) hR ht (n2 h rfl) ((in_0_12 a).2 ha)), hr⟩
theorem in_up {b : Int32} {n : Nat} (hn : n ≤ 12) : (∃ i, i < n ∧ b = nI i ∧ F_X11_in b.toInt64 (0 : Int64) ((nI n - (1 : Int32)).toInt64) = 1) ∨ ((b < 0 ∨ nI n ≤ b) ∧ F_X11_in b.toInt64 (0 : Int64) ((nI n - (1 : Int32)).toInt64) = 0) := by
  rcases Nat.eq_zero_or_pos n with z | z
  · subst z
    right
    rcases nj_or b with h0 | ⟨j, hj, rfl⟩
    · refine ⟨Or.inl h0, ?_⟩
      unfold F_X11_in
      have e : lg_cmp b.toInt64 (0 : Int64) < (0 : Int32) := by
        rw [lg_cmp_lt, show (0 : Int64) = (0 : Int32).toInt64 from rfl, Int64.lt_iff_toInt_lt, Int32.toInt_toInt64, Int32.toInt_toInt64]
        exact Int32.lt_iff_toInt_lt.mp h0
      simp only [e, if_true]
    · refine ⟨Or.inr (nI_le (Nat.zero_le _) hj), ?_⟩
      unfold F_X11_in
      have e : (0 : Int32) < lg_cmp (nI j).toInt64 ((nI 0 - (1 : Int32)).toInt64) := by
        rw [lg_cmp_gt, Int64.lt_iff_toInt_lt, Int32.toInt_toInt64, Int32.toInt_toInt64]
        have h1 : ¬ nI j ≤ (-1 : Int32) := by
          intro q
          have h2 : ¬ nI j < 0 := nI_pos hj
          apply h2
          exact Int32.lt_of_le_of_lt q (by decide)
        exact Int32.lt_iff_toInt_lt.mp (Int32.not_le.mp h1)
      rw [if_pos e]
      split <;> rfl
  · rw [show (1 : Int32) = nI 1 from rfl, nm_sub z, lj_0]
    by_cases q : nb b 0 (n - 1)
    · left
      have e := in_y (by omega) (by omega) q
      obtain ⟨i, -, i2, rfl⟩ := q
      exact ⟨i, by omega, rfl, e⟩
    · right
      refine ⟨?_, in_n (by omega) (by omega) q⟩
      rcases nj_or b with h0 | ⟨j, hj, rfl⟩
      · exact Or.inl h0
      · right
        have := nb_nat hj (by omega) q
        exact nI_le (by omega) hj
theorem op_how (a b : Int32) : xm_opi (xm_X0 L xs) (d + 20) (Rel SIs) 120 286 [.int a, .int b] := by
  intro h hr
  obtain ⟨t, ht, hR, hw, hli, hwk⟩ := hr.opn
  by_cases hn : h.1 83 22 = 0
  · obtain ⟨q1, q2⟩ := ln_0 (t := t) hli.1 hn
    exact ⟨-2, h, h, v_X10_how (d := d + 19) (s_X10_how_0_2 (d := d + 12) hR ht (by rw [q1]; exact one_ne0)), v_X11_how (d := d + 19) (s_X11_how_0_0 (d := d + 12) hR ht q2), hr⟩
  · obtain ⟨q1, q2⟩ := ln_1 (t := t) hli.1 hw.1 hn
    have n2 : ∀ z : xm_H, z.1 83 = h.1 83 → ¬ F_X11_isLinen z t = 0 := fun z ez => by
      have : F_X11_isLinen z t = F_X11_isLinen h t := by
        unfold F_X11_isLinen
        rw [ez]
      rw [this, q2]
      exact one_ne0
    by_cases ha : nb a 0 12
    · have ca : ¬ F_X10_isWaysLength a = 0 := by rw [(x_isWaysLength a).1 ha]; exact one_ne0
      have ma : ¬ F_X11_in a.toInt64 (0 : Int64) (12 : Int64) = 0 := by rw [(in_0_12 a).1 ha]; exact one_ne0
      obtain ⟨n, -, hn12, rfl⟩ := ha
      obtain ⟨cn, s, rm, ar, hN, e3, hrm, er, e4, -⟩ := now_of hw hli hwk hn
      obtain ⟨A, B, g, N, Q, par, mv, dep, hK, hK0, eA, eB, V, g2, gq, hF, hrg⟩ := x_first (L := L) (xs := xs) (d := d + 7) hr hR ht hN hli.2.1 hli.2.2.1 hrm e4
      have gR : g.2.2 = xm_R0 t := by rw [g2]; exact hR
      have e83 : g.1 83 = h.1 83 := gq 83 (by omega)
      obtain ⟨y, r, Vw, y1, hd⟩ := v_wayMove (L := L) (xs := xs) (d := d + 9) (n := n) (l3 := b) gR ht hF hK hn12
      have yR : y.2.2 = xm_R0 t := by rw [y1.1]; exact gR
      have y83 : y.1 83 = h.1 83 := (y1.2.1 83 (by decide)).trans e83
      have hNy := hN.fr y83
      have hry := hrg.frC y1
      have VX := v_X10_how (d := d + 19) (s_X10_how_0_1 (L := L) (xs := xs) (d := d + 12) (h := h) hR ht q1 ca V gR (by rw [gq 3 (by omega), e3]; exact Vw))
      obtain ⟨b1, b2, b3, b4, b5, b6, b7, b8, b9⟩ := hNy
      have VN := v_now (L := L) (xs := xs) (d := d + 10) yR ht b1 b2 b3 b4 b5 b6 b7
      have hrf := hry.wF (wF.rf (h := y) (g := rf_n y) ⟨rfl, fun _ _ _ _ _ => rfl, fun _ _ _ _ _ _ => rfl, fun _ _ _ => rfl⟩)
      by_cases tw : s.2.2.2.2 = 2
      · have ct : F_X11_twistOf (st_M s) = 0 := by rw [cm_twist hK]; exact (tw_eq hK.2.2.2.2).mpr tw
        rcases in_up (b := b) hn12 with ⟨i, i1, i2, i3⟩ | ⟨i1, i2⟩
        · subst i2
          obtain ⟨z, Vz, z1, z2, z3, z4⟩ := r_fill (L := L) (xs := xs) (d := d + 9) (h := rf_n y) (n := n) (G := s) (show (rf_n y).2.2 = xm_R0 t from yR) ht ((hN.fr y83).fr (rf_n83 y)) hrm (by rw [rf_n83, y83]; exact er) (by rw [rf_n83, y83]; exact eA) (by rw [rf_n83, y83]; exact eB) hK0 hF.1 hF.2.2.1 hK hn12
          have zR : z.2.2 = xm_R0 t := by rw [z1.1]; exact yR
          have zf := z1.rf
          have eF : F_X11_firstState z t = st_M (Q 0) := by
            rw [hF.1.2.1]
            unfold F_X11_firstState
            rw [zf.2.1 83 (by decide) (by decide) (by decide) (by decide), y83]
            exact cm_st2 eA eB rfl rfl tw00
          have hK00 := hF.2.2.1 0 hF.1.1
          have hm0 := mdn_lt hK00
          have eix : (13 : Int32) * F_X11_firstState z t + nI n = nI (13 * mdn (Q 0) + n) := by rw [eF, m13, nI_add]
          have c6 : ¬ ((13 : Int32) * F_X11_firstState z t + nI n < 0 ∨ 1560650 ≤ ((13 : Int32) * F_X11_firstState z t + nI n).toNatClampNeg) := by rw [eix]; exact m13_in hK00 (by omega)
          have e95 : z.1 95 ((13 : Int32) * F_X11_firstState z t + nI n).toNatClampNeg = bI (pW (nx10 1023 rm 60) s (Q 0) n) := by rw [eix, nI_clamp (by omega), z2.2 0 n hF.1.1 (Nat.le_refl _)]
          have cin : ¬ F_X11_in (nI i).toInt64 (0 : Int64) ((nI n - (1 : Int32)).toInt64) = 0 := by rw [i3]; exact one_ne0
          rcases hd with ⟨d1, d2⟩ | ⟨i', k, d1, d2, d3, d4, d5⟩
          · have w0 : wS (nx10 1023 rm 60) s n (Q 0) = 0 := by
              rcases d2 with q | q | q
              · exact absurd q (nI_pos (by omega))
              · rw [nI_leI (by omega) (by omega)] at q
                omega
              · exact q
            subst d1
            exact ⟨-1, y, z, VX, v_X11_how (d := d + 19) (s_X11_how_0_3 (L := L) (xs := xs) (d := d + 12) yR ht (n2 y y83) ma VN ct cin Vz zR c6 (by rw [e95]; exact bI_z (decide_eq_false (by omega)))), hry.wF zf⟩
          · have ei : i = i' := (nI_eq (by omega) (by omega)).mp d2
            subst ei
            subst d3
            obtain ⟨k', w1, w2⟩ := r_hwalk (L := L) (xs := xs) (d := d + 12) (l3 := st_M s) zR ht hrm z3 z4 hF.1 hF.2.2.1 hn12 z2 d1 i 0 (n - 1) 0 (by omega) (by omega) hF.1.1 (by rw [show n - 1 + 1 = n by omega]; exact d4)
            have ek := HW.uniq _ _ _ _ _ d5 w1
            subst ek
            exact ⟨nI k, y, z, VX, v_X11_how (d := d + 19) (s_X11_how_0_4 (L := L) (xs := xs) (d := d + 12) yR ht (n2 y y83) ma VN ct cin Vz zR c6 (by rw [e95]; exact bI_ne (decide_eq_true d4)) (by rw [eF]; exact w2 _)), hry.wF zf⟩
        · have er : r = -1 := by
            rcases hd with ⟨d1, -⟩ | ⟨i', k, d1, d2, -⟩
            · exact d1
            · exfalso
              rw [d2] at i1
              rcases i1 with q | q
              · exact absurd q (nI_pos (by omega))
              · rw [nI_leI (by omega) (by omega)] at q
                omega
          subst er
          exact ⟨-1, y, rf_n y, VX, v_X11_how (d := d + 19) (s_X11_how_0_2 (L := L) (xs := xs) (d := d + 12) yR ht (n2 y y83) ma VN ct i2), hrf⟩
      · have er : r = -1 := by
          rcases hd with ⟨d1, -⟩ | ⟨i', k, d1, d2, d3, d4, -⟩
          · exact d1
          · rw [hF.1.2.1, wS_tw tw n _ rfl] at d4
            omega
        subst er
        exact ⟨-1, y, rf_n y, VX, v_X11_how (d := d + 19) (s_X11_how_0_5 (L := L) (xs := xs) (d := d + 12) yR ht (n2 y y83) ma VN (by rw [cm_twist hK]; exact fun e => tw ((tw_eq hK.2.2.2.2).mp e))), hrf⟩
    · exact ⟨-2, h, h, v_X10_how (d := d + 19) (s_X10_how_0_0 (d := d + 12) hR ht q1 ((x_isWaysLength a).2 ha)), v_X11_how (d := d + 19) (s_X11_how_0_1 (d := d + 12) hR ht (n2 h rfl) ((in_0_12 a).2 ha)), hr⟩
end OPS
