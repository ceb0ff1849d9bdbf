/-! Taken back, begun anew; what is counted. -/
section OPS
variable {L : Nat} {xs : Nat → Int32} {d : Nat} {SI : (Nat → Nat → Int32) → (Nat → Nat → Int64) → Prop}
/-- only the first n acts stay -/
theorem Rel.cut {h g : xm_H} {n c : Nat} (hr : Rel SI h) (hg2 : g.2 = h.2) (hgq : ∀ q, q ≠ 3 → q ≠ 4 → g.1 q = h.1 q) (hnc : n ≤ c) (hc : c ≤ 60) (hact : ∀ j, j < c → rl_in (h.1 83 (50 + j)) 0 12) (hlin : ¬ h.1 83 22 = 0) (g2 : g.1 3 2 = nI n) (gs : ∃ s', rp (h.1 83) n = some s' ∧ st_K s' ∧ g.1 3 3 = st_P s') (g4 : g.1 3 4 = sc (h.1 83) n) (ga : ∀ i, i < n → g.1 4 i = h.1 83 (50 + i)) : Rel SI (xm_si g 83 23 (nI n)) := by
  have e83 : g.1 83 = h.1 83 := hgq 83 (by decide) (by decide)
  have hk : ∀ k, k ≠ 23 → (xm_si g 83 23 (nI n)).1 83 k = h.1 83 k := fun k k23 => by rw [xm_rk k23, e83]
  have hsm : rl_same (h.1 83) ((xm_si g 83 23 (nI n)).1 83) := fun k k23 _ => hk k k23
  have e23' : (xm_si g 83 23 (nI n)).1 83 23 = nI n := xm_ra
  refine hr.work (by rw [xm_r2, hg2]) (fun q hq n3 n4 n83 => ?_) (fun q _ => by rw [xm_r2, hg2]) (fun j _ => ?_) (fun j hj => ?_) hsm hlin ?_ ⟨n, by omega, e23', fun j hj => ?_⟩
  · rw [xm_rn n83, hgq q n3 n4]
  · rw [xm_rn (by decide), hgq 1 (by decide) (by decide)]
  · rw [xm_rn (by decide), hgq 82 (by decide) (by decide)]
  · obtain ⟨s', hs', hK, e3⟩ := gs
    rw [xm_rn (show (3 : Nat) ≠ 83 by decide), xm_rn (show (4 : Nat) ≠ 83 by decide)]
    refine ⟨by rw [g2, e23'], fun i hi hlt => ?_, fun _ => ⟨s', ?_, hK, e3, ?_⟩⟩
    · rw [e23', nI_ltI (by omega) (by omega)] at hlt
      rw [ga i hlt, hk (50 + i) (by omega)]
    · rw [e23', nI_clamp (by omega), rp_w (w := h.1 83) (hk 0 (by decide)) (hk 1 (by decide)) (hk 3 (by decide)) n (fun i _ => hk (50 + i) (by omega))]
      exact hs'
    · rw [e23', nI_clamp (by omega), sc_w (w := h.1 83) (fun k _ => hk (5 + k) (by omega)) n (fun i _ => hk (50 + i) (by omega))]
      exact g4
  · rw [hk (50 + j) (by omega)]
    exact hact j (by omega)
def hC (h : xm_H) (x : Int32) : xm_H := xm_si (xm_si (xm_si h 3 2 (0 : Int32)) 3 3 x) 3 4 (0 : Int32)
theorem hC_q {h : xm_H} {x : Int32} {q : Nat} (h3 : q ≠ 3) : (hC h x).1 q = h.1 q := by
  unfold hC
  rw [xm_rn h3, xm_rn h3, xm_rn h3]
theorem hC_32 {h : xm_H} {x : Int32} : (hC h x).1 3 2 = 0 := by
  unfold hC
  rw [xm_rk (by decide), xm_rk (by decide), xm_ra]
theorem hC_33 {h : xm_H} {x : Int32} : (hC h x).1 3 3 = x := by
  unfold hC
  rw [xm_rk (by decide), xm_ra]
theorem hC_34 {h : xm_H} {x : Int32} : (hC h x).1 3 4 = 0 := xm_ra
theorem first_x {h : xm_H} {t : Nat} (e1 : h.1 t 1 = h.1 83 0) (e2 : h.1 t 2 = h.1 83 1) (h0 : rl_in (h.1 83 0) 1 48) (h1 : rl_in (h.1 83 1) 1 48) : ∃ s0, rp (h.1 83) 0 = some s0 ∧ st_K s0 ∧ F_X0_firstState h t = st_P s0 := by
  have hK := rp_K h0 h1 0 (fun j hj => absurd hj (by omega)) _ rfl
  refine ⟨_, rfl, hK, ?_⟩
  obtain ⟨a0, ha1, ha2, ea0⟩ := h0
  obtain ⟨b0, hb1, hb2, eb0⟩ := h1
  unfold F_X0_firstState
  refine cx_st2 hK ?_ ?_ rfl rfl tw00
  · show h.1 t 1 = nI (h.1 83 0).toNatClampNeg
    rw [e1, ea0, nI_clamp (by omega)]
  · show h.1 t 2 = nI (h.1 83 1).toNatClampNeg
    rw [e2, eb0, nI_clamp (by omega)]
theorem v_begin {h : xm_H} {t : Nat} {x : Int32} (hR : h.2.2 = xm_R0 t) (ht : t = 5 ∨ t = 13) (hx : F_X0_firstState h t = x) : xm_V (xm_X0 L xs) xm_P (d + 8) 31 [.ref 3] h none (hC h x) := by
  have V := v_X9_begin (d := d + 7) (s_X9_begin_0_0 (L := L) (xs := xs) (d := d) hR ht)
  have e : F_X0_firstState (xm_si h 3 2 (0 : Int32)) t = x := by
    rw [← hx]
    unfold F_X0_firstState
    rw [xm_rn (show t ≠ 3 by omega)]
  rw [e] at V
  exact V
theorem op_anew : xm_opi (xm_X0 L xs) (d + 20) (Rel SI) 65 250 [] := by
  intro h hr
  obtain ⟨t, ht, hR, hw, hli, hwk⟩ := hr.opn
  have n0 : ¬ (1 : Int32) = 0 := by decide
  by_cases hn : h.1 83 22 = 0
  · have q := ln_0 (t := t) hli.1 hn
    exact ⟨-2, h, h, v_X10_anew (d := d + 19) (s_X10_anew_0_1 (d := d + 12) hR ht (by rw [q.1]; exact n0)), v_X11_anew (d := d + 19) (s_X11_anew_0_0 (d := d + 12) hR ht q.2), hr⟩
  · have q := ln_1 (t := t) hli.1 hw.1 hn
    obtain ⟨c, s, rm, hc, e23, hact, h0, h1, h3, hs, hK, er, hrm, e4, h14, e2, e3, esec, hac⟩ := told_of hw hli hwk hn
    obtain ⟨s0, hs0, hK0, ex⟩ := first_x (t := t) hli.2.1 hli.2.2.1 h0 h1
    have V1 := v_X10_anew (d := d + 19) (s_X10_anew_0_0 (L := L) (xs := xs) (d := d + 12) hR ht q.1 (v_begin (d := d + 11) hR ht ex))
    have e83 : (hC h (st_P s0)).1 83 = h.1 83 := hC_q (by decide)
    have q1 : F_X11_isLinen (hC h (st_P s0)) t = 1 := by
      have := q.2
      unfold F_X11_isLinen at this ⊢
      rw [e83]
      exact this
    have V2 := v_X11_anew (d := d + 19) (s_X11_anew_0_1 (L := L) (xs := xs) (d := d + 12) (h := hC h (st_P s0)) (t := t) hR ht (by rw [q1]; exact n0))
    rw [e83, e23] at V2
    rw [e2] at V1
    refine ⟨_, _, _, V1, V2, ?_⟩
    exact hr.cut (g := hC h (st_P s0)) (n := 0) (c := c) rfl (fun q q3 _ => hC_q q3) (by omega) hc hact hn hC_32 ⟨s0, hs0, hK0, hC_33⟩ hC_34 (fun i hi => absurd hi (by omega))
theorem v_takeBack {h : xm_H} {t c rm m : Nat} {s : St} (hR : h.2.2 = xm_R0 t) (ht : t = 5 ∨ t = 13) (hc : c ≤ 60) (hm : m < c) (hact : ∀ j, j < c → rl_in (h.1 83 (50 + j)) 0 12) (h0 : rl_in (h.1 83 0) 1 48) (h1 : rl_in (h.1 83 1) 1 48) (hs : rp (h.1 83) c = some s) (er : h.1 83 3 = nI rm) (hrm : rm ≤ 60) (e4 : h.1 t 4 = nI rm) (h14 : ∀ k, k < 6 → h.1 (t + 2) k = h.1 83 (5 + k)) (l1 : h.1 t 1 = h.1 83 0) (l2 : h.1 t 2 = h.1 83 1) (hac : ∀ i, i < c → h.1 4 i = h.1 83 (50 + i)) : ∃ g, xm_V (xm_X0 L xs) xm_P (d + 10) 62 [.ref 3, .int (nI m)] h none g ∧ g.2 = h.2 ∧ (∀ q, q ≠ 3 → q ≠ 4 → g.1 q = h.1 q) ∧ g.1 3 2 = nI m ∧ (∃ s', rp (h.1 83) m = some s' ∧ st_K s' ∧ g.1 3 3 = st_P s') ∧ g.1 3 4 = sc (h.1 83) m ∧ (∀ i, i < c → g.1 4 i = h.1 83 (50 + i)) := by
  have loop : ∀ k i (g : xm_H), k + i = m → g.2 = h.2 → (∀ q, q ≠ 3 → q ≠ 4 → g.1 q = h.1 q) → g.1 3 2 = nI i → (∃ s', rp (h.1 83) i = some s' ∧ st_K s' ∧ g.1 3 3 = st_P s') → g.1 3 4 = sc (h.1 83) i → (∀ j, j < c → g.1 4 j = h.1 83 (50 + j)) → ∃ g', xm_E (xm_X0 L xs) xm_P (d + 9) co_X9_takeBackTo 4 [some (.ref 3), some (.int (nI m)), some (.int (nI i))] [] g none g' ∧ g'.2 = h.2 ∧ (∀ q, q ≠ 3 → q ≠ 4 → g'.1 q = h.1 q) ∧ g'.1 3 2 = nI m ∧ (∃ s', rp (h.1 83) m = some s' ∧ st_K s' ∧ g'.1 3 3 = st_P s') ∧ g'.1 3 4 = sc (h.1 83) m ∧ (∀ j, j < c → g'.1 4 j = h.1 83 (50 + j)) := by
    intro k
    induction k with
    | zero =>
      intro i g hk a1 a2 a3 a4 a5 a6
      have him : i = m := by omega
      subst him
      exact ⟨g, s_X9_takeBackTo_4_0 (d := d + 2) (nI_le (by omega) (by omega)), a1, a2, a3, a4, a5, a6⟩
    | succ k ih =>
      intro i g hk a1 a2 a3 a4 a5 a6
      obtain ⟨s', hs', hK', e3'⟩ := a4
      obtain ⟨s2, hs2⟩ := rp_pre hs (n := i + 1) (by omega)
      obtain ⟨a, -, ha, ea⟩ := hact i (by omega)
      have hdo : st_do rm a s' = some s2 := by
        simp only [rp, hs', Option.bind] at hs2
        rw [er, ea, nI_clamp (by omega), nI_clamp (by omega)] at hs2
        exact hs2
      have g83 : g.1 83 = h.1 83 := a2 83 (by decide) (by decide)
      have gR : g.2.2 = xm_R0 t := by rw [a1]; exact hR
      have V := v_doAct1 (L := L) (xs := xs) (d := d + 1) (h := g) (t := t) (c := i) (a := a) (rm := rm) (s := s') (s' := s2) gR ht (by omega) a3 e3' hK' (by rw [a2 t (by omega) (by omega)]; exact e4) hrm ha (fun k hk => by rw [a2 (t + 2) (by omega) (by omega), g83]; exact h14 k hk) hdo
      have eg : g.1 4 (nI i).toNatClampNeg = nI a := by rw [nI_clamp (by omega), a6 i (by omega), ea]
      have hK2 := st_do_K hK' hdo ha
      obtain ⟨g', b0, b⟩ := ih (i + 1) (hA g i a s2) (by omega) (by rw [hA_2]; exact a1) (fun q q3 q4 => by rw [hA_q q3 q4]; exact a2 q q3 q4) hA_32 ⟨s2, hs2, hK2, hA_33⟩ (by
        rw [hA_34, a5, g83]
        simp only [sc, ea]
        rw [nI_clamp (by omega)]) (fun j hj => by
        by_cases hji : j = i
        · subst hji
          rw [hA_4c, ea]
        · rw [hA_4k hji]
          exact a6 j hj)
      refine ⟨g', ?_, b⟩
      refine s_X9_takeBackTo_4_2 (d := d + 2) gR ht (nI_ge (by omega) (by omega)) (nI_ge (b := 60) (by omega) (by omega)) (nI_in (by omega) (by omega)) (by rw [eg]; exact V) ?_
      rw [nI_1]
      exact b0
  obtain ⟨s0, hs0, hK0, ex⟩ := first_x (t := t) l1 l2 h0 h1
  obtain ⟨g', b0, b⟩ := loop m 0 (hC h (st_P s0)) (by omega) rfl (fun q q3 _ => hC_q q3) hC_32 ⟨s0, hs0, hK0, hC_33⟩ hC_34 (fun j hj => by rw [hC_q (by decide)]; exact hac j hj)
  exact ⟨g', v_X9_takeBackTo (d := d + 9) (s_X9_takeBackTo_0_0 (d := d + 2) (v_begin (d := d + 1) hR ht ex) b0), b⟩
theorem op_undo : xm_opi (xm_X0 L xs) (d + 20) (Rel SI) 61 248 [] := by
  intro h hr
  obtain ⟨t, ht, hR, hw, hli, hwk⟩ := hr.opn
  have n0 : ¬ (1 : Int32) = 0 := by decide
  by_cases hn : h.1 83 22 = 0
  · have q := ln_0 (t := t) hli.1 hn
    exact ⟨-2, h, h, v_X10_undo (d := d + 19) (s_X10_undo_0_2 (d := d + 12) hR ht (by rw [q.1]; exact n0)), v_X11_undo (d := d + 19) (s_X11_undo_0_0 (d := d + 12) hR ht q.2), hr⟩
  · have q := ln_1 (t := t) hli.1 hw.1 hn
    obtain ⟨c, s, rm, hc, e23, hact, h0, h1, h3, hs, hK, er, hrm, e4, h14, e2, e3, esec, hac⟩ := told_of hw hli hwk hn
    by_cases hz : c = 0
    · subst hz
      exact ⟨-5, h, h, v_X10_undo (d := d + 19) (s_X10_undo_0_0 (d := d + 12) hR ht q.1 e2), v_X11_undo (d := d + 19) (s_X11_undo_0_1 (d := d + 12) hR ht (by rw [q.2]; exact n0) e23), hr⟩
    · obtain ⟨g, V, a1, a2, a3, a4, a5, a6⟩ := v_takeBack (L := L) (xs := xs) (d := d + 9) (m := c - 1) hR ht hc (by omega) hact h0 h1 hs er hrm e4 h14 hli.2.1 hli.2.2.1 hac
      have g83 : g.1 83 = h.1 83 := a2 83 (by decide) (by decide)
      have gR : g.2.2 = xm_R0 t := by rw [a1]; exact hR
      have ec : nI c - (1 : Int32) = nI (c - 1) := nm_sub (b := 1) (by omega)
      have W1 := v_X10_undo (d := d + 19) (s_X10_undo_0_1 (L := L) (xs := xs) (d := d + 12) hR ht q.1 (by rw [e2]; exact nI_ne0 (by omega) (by omega)) (by rw [e2, ec]; exact V) gR)
      have q1 : F_X11_isLinen g t = 1 := by
        have := q.2
        unfold F_X11_isLinen at this ⊢
        rw [g83]
        exact this
      have W2 := v_X11_undo (d := d + 19) (s_X11_undo_0_2 (L := L) (xs := xs) (d := d + 12) (h := g) (t := t) gR ht (by rw [q1]; exact n0) (by rw [g83, e23]; exact nI_ne0 (by omega) (by omega)))
      rw [xm_ra, g83, e23, ec] at W2
      rw [a3] at W1
      refine ⟨_, _, _, W1, W2, ?_⟩
      exact hr.cut (n := c - 1) (c := c) a1 a2 (by omega) hc hact hn a3 a4 a5 (fun i hi => a6 i (by omega))
end OPS
