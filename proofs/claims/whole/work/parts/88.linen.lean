/-! linen. -/
section OPS
variable {L : Nat} {xs : Nat → Int32} {d : Nat} {SI : (Nat → Nat → Int32) → (Nat → Nat → Int64) → Prop}
theorem R0_swap {h : xm_H} {t s : Nat} (ht : t = 5 ∨ t = 13) (hs : s = 18 - t) (hR : h.2.2 = xm_R0 t) : (xm_sr (xm_sr h 3 0 s) 0 2 t).2.2 = xm_R0 s := by
  funext q j
  by_cases h0 : q = 0
  · subst h0
    show va_up ((xm_sr h 3 0 s).2.2 0) 2 (some t) j = xm_R0 s 0 j
    have e : (xm_sr h 3 0 s).2.2 0 = xm_R0 t 0 := by
      rw [← hR]
      rfl
    rw [e]
    unfold va_up
    by_cases hj : j = 2
    · rw [hj, if_pos rfl]
      show some t = some (18 - s)
      congr 1
      omega
    · rw [if_neg hj]
      unfold xm_R0
      rw [if_pos rfl, if_pos rfl]
      simp only [if_neg hj]
  · have e1 : (xm_sr (xm_sr h 3 0 s) 0 2 t).2.2 q = (xm_sr h 3 0 s).2.2 q := if_neg h0
    rw [e1]
    by_cases h3 : q = 3
    · subst h3
      show va_up (h.2.2 3) 0 (some s) j = xm_R0 s 3 j
      rw [hR]
      unfold va_up
      by_cases hj : j = 0
      · rw [hj, if_pos rfl]
        rfl
      · rw [if_neg hj]
        unfold xm_R0
        simp [hj]
    · have e2 : (xm_sr h 3 0 s).2.2 q = h.2.2 q := if_neg h3
      rw [e2, hR]
      unfold xm_R0
      simp only [if_neg h0, if_neg h3]
theorem v_clear {h : xm_H} {t s : Nat} (hR : h.2.2 = xm_R0 t) (hs : s = 5 ∨ s = 13) : ∃ g, xm_V (xm_X0 L xs) xm_P (d + 2) 5 [.ref s] h none g ∧ g.2 = h.2 ∧ (∀ q, q < s ∨ s + 2 < q → g.1 q = h.1 q) ∧ (∀ j, j < 12 → g.1 s j = 0) ∧ g.1 (s + 1) 0 = 0 ∧ (∀ k, k < 6 → g.1 (s + 2) k = 5) := by
  obtain ⟨g, g0, g1, g2, g3⟩ := v_fillI (L := L) (xs := xs) (d := d) (h := xm_si (xm_si (xm_si (xm_si (xm_si (xm_si (xm_si (xm_si (xm_si (xm_si (xm_si (xm_si (xm_si h s 0 (0 : Int32)) s 1 (0 : Int32)) s 2 (0 : Int32)) s 3 (0 : Int32)) s 4 (0 : Int32)) s 5 (0 : Int32)) s 6 (0 : Int32)) s 7 (0 : Int32)) s 8 (0 : Int32)) (s + 1) 0 (0 : Int32)) s 9 (0 : Int32)) s 10 (0 : Int32)) s 11 (0 : Int32)) (v := s + 2) (n := 6) (x := 5) (xs_l6 hs).1 (by decide)
  have V := v_X0_clear (d := d + 1) (p_X0_clear_0_0 (X := xm_X0 L xs) (P := xm_P) (d := d + 1) (h := h) (l0 := s) (v0 := s + 1) (v1 := s + 2) (xs_lin hs) (by rw [show (xm_si (xm_si (xm_si (xm_si (xm_si (xm_si (xm_si (xm_si (xm_si h s 0 (0 : Int32)) s 1 (0 : Int32)) s 2 (0 : Int32)) s 3 (0 : Int32)) s 4 (0 : Int32)) s 5 (0 : Int32)) s 6 (0 : Int32)) s 7 (0 : Int32)) s 8 (0 : Int32)).2.2 = h.2.2 from rfl, hR]; exact rr_lin hs (by decide) (by decide)) (xs_wish hs) (by
    show h.2.2 s 13 = _
    rw [hR]; exact rr_lin hs (by decide) (by decide)) g0)
  refine ⟨g, V, g1, fun q hq => ?_, fun j hj => ?_, ?_, g3⟩
  · rw [g2 q (by omega)]
    have q1 : q ≠ s := by omega
    have q2 : q ≠ s + 1 := by omega
    rw [xm_rn q1, xm_rn q1, xm_rn q1, xm_rn q2, xm_rn q1, xm_rn q1, xm_rn q1, xm_rn q1, xm_rn q1, xm_rn q1, xm_rn q1, xm_rn q1, xm_rn q1]
  · rw [g2 s (by omega)]
    have q2 : s ≠ s + 1 := by omega
    have : j = 0 ∨ j = 1 ∨ j = 2 ∨ j = 3 ∨ j = 4 ∨ j = 5 ∨ j = 6 ∨ j = 7 ∨ j = 8 ∨ j = 9 ∨ j = 10 ∨ j = 11 := by omega
    rcases this with rfl | rfl | rfl | rfl | rfl | rfl | rfl | rfl | rfl | rfl | rfl | rfl <;> simp (disch := omega) only [xm_ra, xm_rk, xm_rn]
  · rw [g2 (s + 1) (by omega), xm_rn (by omega), xm_rn (by omega), xm_rn (by omega), xm_ra]
theorem c_begin {h : xm_H} {t n : Nat} {B : Nat → Nat} (hR : h.2.2 = xm_R0 t) (ht : t = 5 ∨ t = 13) (hn : n ≤ 1000) (e1 : h.1 1 1 = nI n) (hB : ∀ j, j < n → B j < 256 ∧ h.1 2 j = x8 (B j)) : ∃ g, xm_V (xm_X0 L xs) xm_P (d + 9) 7 [.ref 1] h none g ∧ XF h g ∧ CX n B g (.ok 0) := by
  obtain ⟨g, g0, g1, g2, g3, g4, g5⟩ := c_skip (L := L) (xs := xs) (d := d) hR ht hn hB (n - 0) 0 (xm_si (xm_si (xm_si (xm_si h 1 2 (0 : Int32)) 1 3 (-1 : Int32)) 1 5 (0 : Int32)) 1 4 ((xm_si (xm_si (xm_si h 1 2 (0 : Int32)) 1 3 (-1 : Int32)) 1 5 (0 : Int32)).1 1 5)) (by omega) ⟨rfl, fun q hq => by rw [xm_rn hq, xm_rn hq, xm_rn hq, xm_rn hq]⟩ (by rw [xm_rk (by decide), xm_rk (by decide), xm_rk (by decide), xm_rk (by decide)]; exact e1) (by rw [xm_ra, xm_ra]; rfl)
  refine ⟨g, v_X6_begin (d := d + 8) (s_X6_begin_0_0 (d := d + 1) (v_X6_advance (d := d + 7) (s_X6_advance_0_0 (d := d) g0))), g1, ?_, fun j hj => ⟨(hB j hj).1, by rw [g1.2 2 (by decide)]; exact (hB j hj).2⟩, 0, by omega, g3, g4, g5, rfl, ?_, ?_⟩
  · rw [g2 1 (by decide) (by decide) (by decide), xm_rk (by decide), xm_rk (by decide), xm_rk (by decide), xm_rk (by decide)]; exact e1
  · rw [g2 2 (by decide) (by decide) (by decide), xm_rk (by decide), xm_rk (by decide), xm_rk (by decide), xm_ra]
  · rw [g2 3 (by decide) (by decide) (by decide), xm_rk (by decide), xm_rk (by decide), xm_ra]
/-- nothing told: what is cleared is it -/
theorem LR_0 {s : Nat} {g : xm_H} {T : Nat → Int32} (hT : T00 T) (h0 : ∀ j, j < 12 → g.1 s j = 0) (h1 : g.1 (s + 1) 0 = 0) : LR s g T := by
  have z : ∀ j, j < 12 → ∀ k, k < 110 → g.1 s j = T k := fun j hj k hk => by rw [h0 j hj, hT k hk]
  unfold LR rl_lin
  have np : ∀ j : Nat, j < 6 → ¬ nI j < (0 : Int32) := fun j hj => nI_pos (by omega)
  refine ⟨z 0 (by omega) 22 (by omega), z 1 (by omega) 0 (by omega), z 2 (by omega) 1 (by omega), z 3 (by omega) 2 (by omega), z 4 (by omega) 3 (by omega), z 5 (by omega) 4 (by omega), z 6 (by omega) 19 (by omega), z 7 (by omega) 11 (by omega), z 8 (by omega) 12 (by omega), z 9 (by omega) 18 (by omega), z 10 (by omega) 20 (by omega), z 11 (by omega) 21 (by omega), fun _ => h1, fun e => ?_, fun e => ?_, fun j hj hj6 => ?_, fun j hj hj6 => ?_, fun j hj hj6 => ?_⟩
  · rw [hT 13 (by omega)] at e; exact absurd e (by decide)
  · exact absurd (hT 22 (by omega)) e
  · rw [hT 19 (by omega)] at hj; exact absurd hj (np j hj6)
  · rw [hT 20 (by omega)] at hj; exact absurd hj (np j (by omega))
  · rw [hT 21 (by omega)] at hj; exact absurd hj (np j hj6)
def Tz (f : Nat → Int32) : Nat → Int32 := fun j => if j < 110 then 0 else f j
theorem Tz_0 {f : Nat → Int32} : T00 (Tz f) := fun _ hk => if_pos hk
/-- the reference's linen, behind the class's -/
theorem m_linen {h : xm_H} {t n : Nat} {B : Nat → Nat} (hR : h.2.2 = xm_R0 t) (ht : t = 5 ∨ t = 13) (hn : n ≤ 1000) (e5 : h.1 82 5 = nI n) (hB : ∀ j, j < n → B j < 256 ∧ h.1 86 j = x8 (B j)) : ∃ v g, xm_V (xm_X0 L xs) xm_P (d + 15) 196 [.ref 82] h (some (.int v)) g ∧ g.2 = h.2 ∧ (∀ q, q ≠ 82 → q ≠ 88 → q ≠ 83 → g.1 q = h.1 q) ∧ g.1 82 5 = 0 ∧ (match ploop n B (n + 1) 0 (Tz (h.1 88)) 0 with
    | .ok a => g.1 82 12 = 0 ∧ g.1 82 13 = -1 ∧ v = a.1 22 ∧ (∀ k, k < 110 → g.1 83 k = a.1 k)
    | .error e => g.1 82 12 = nI e.1 ∧ g.1 82 13 = nI e.2 ∧ v = -4 ∧ g.1 83 = h.1 83) := by
  have n0 : ¬ (1 : Int32) = 0 := by decide
  let y0 : xm_H := xm_si (xm_si (xm_si (xm_si (xm_si h 82 7 (h.1 82 5)) 82 5 (0 : Int32)) 82 8 (0 : Int32)) 82 12 (0 : Int32)) 82 13 (-1 : Int32)
  have clr : ∀ m i (z : xm_H), m + i = 110 → z.2 = h.2 → (∀ q, q ≠ 88 → z.1 q = y0.1 q) → (∀ j, j < i → z.1 88 j = 0) → (∀ j, 110 ≤ j → z.1 88 j = h.1 88 j) → ∃ g, (∀ ro ho, xm_E (xm_X0 L xs) xm_P (d + 14) co_X11_linen 18 [some (.ref 82), some (.int (nI 110))] [] g ro ho → xm_E (xm_X0 L xs) xm_P (d + 14) co_X11_linen 18 [some (.ref 82), some (.int (nI i))] [] z ro ho) ∧ g.2 = h.2 ∧ (∀ q, q ≠ 88 → g.1 q = y0.1 q) ∧ (∀ j, j < 110 → g.1 88 j = 0) ∧ (∀ j, 110 ≤ j → g.1 88 j = h.1 88 j) := by
    intro m
    induction m with
    | zero =>
      intro i z hi a1 a2 a3 a4
      have : i = 110 := by omega
      subst this
      exact ⟨z, fun _ _ K => K, a1, a2, a3, a4⟩
    | succ m ih =>
      intro i z hi a1 a2 a3 a4
      have zR : z.2.2 = xm_R0 t := by rw [a1]; exact hR
      obtain ⟨g, g0, g1⟩ := ih (i + 1) (xm_si z 88 i 0) (by omega) a1 (fun q hq => by rw [xm_rn hq]; exact a2 q hq) (fun j hj => by
        by_cases hji : j = i
        · rw [hji, xm_ra]
        · rw [xm_rk hji]; exact a3 j (by omega)) (fun j hj => by rw [xm_rk (by omega)]; exact a4 j hj)
      refine ⟨g, fun ro ho K => ?_, g1⟩
      refine s_X11_linen_18_1 (d := d + 7) zR ht (nI_ge (b := 110) (by omega) (by decide)) (nI_in (by omega) (by decide)) ?_
      rw [nI_clamp (by omega), nI_1]
      exact g0 ro ho K
  obtain ⟨g, g0, g1, g2, g3, g4⟩ := clr 110 0 y0 (by omega) rfl (fun _ _ => rfl) (fun j hj => absurd hj (by omega)) (fun j _ => by
    show (xm_si (xm_si (xm_si (xm_si (xm_si h 82 7 (h.1 82 5)) 82 5 (0 : Int32)) 82 8 (0 : Int32)) 82 12 (0 : Int32)) 82 13 (-1 : Int32)).1 88 j = _
    rw [xm_rn (by decide), xm_rn (by decide), xm_rn (by decide), xm_rn (by decide), xm_rn (by decide)])
  have gR : g.2.2 = xm_R0 t := by rw [g1]; exact hR
  have gq : ∀ q, q ≠ 82 → q ≠ 88 → g.1 q = h.1 q := fun q q1 q2 => by
    rw [g2 q q2]
    show (xm_si (xm_si (xm_si (xm_si (xm_si h 82 7 (h.1 82 5)) 82 5 (0 : Int32)) 82 8 (0 : Int32)) 82 12 (0 : Int32)) 82 13 (-1 : Int32)).1 q = _
    rw [xm_rn q1, xm_rn q1, xm_rn q1, xm_rn q1, xm_rn q1]
  have y82 : ∀ j, y0.1 82 j = if j = 13 then -1 else if j = 12 then 0 else if j = 8 then 0 else if j = 5 then 0 else if j = 7 then nI n else h.1 82 j := by
    intro j
    show (xm_si (xm_si (xm_si (xm_si (xm_si h 82 7 (h.1 82 5)) 82 5 (0 : Int32)) 82 8 (0 : Int32)) 82 12 (0 : Int32)) 82 13 (-1 : Int32)).1 82 j = _
    by_cases j13 : j = 13
    · rw [if_pos j13, j13, xm_ra]
    · rw [if_neg j13, xm_rk j13]
      by_cases j12 : j = 12
      · rw [if_pos j12, j12, xm_ra]
      · rw [if_neg j12, xm_rk j12]
        by_cases j8 : j = 8
        · rw [if_pos j8, j8, xm_ra]
        · rw [if_neg j8, xm_rk j8]
          by_cases j5 : j = 5
          · rw [if_pos j5, j5, xm_ra]
          · rw [if_neg j5, xm_rk j5]
            by_cases j7 : j = 7
            · rw [if_pos j7, j7, xm_ra, e5]
            · rw [if_neg j7, xm_rk j7]
  have x82 : ∀ j, g.1 82 j = y0.1 82 j := fun j => by rw [g2 82 (by decide)]
  have hB' : ∀ j, j < n → B j < 256 ∧ g.1 86 j = x8 (B j) := fun j hj => ⟨(hB j hj).1, by rw [gq 86 (by decide) (by decide)]; exact (hB j hj).2⟩
  obtain ⟨k, k0, k1, k2, k3, k4, k5, k6⟩ := m_skip (L := L) (xs := xs) (d := d + 6) gR ht hn hB' (n - 0) 0 g (by omega) (MF.refl g) (by rw [x82, y82]; rfl) (by rw [x82, y82]; rfl)
  have kR := k1.R gR
  have V1 := v_X11_advance (d := d + 13) k0
  have kX : MX n B k (.ok 0) := by
    refine ⟨by rw [k2 7 (by decide) (by decide) (by decide) (by decide), x82, y82]; rfl, fun j hj => ⟨(hB j hj).1, by rw [k1.2.1 86 (by decide)]; exact (hB' j hj).2⟩, 0, by omega, k3, k4, k5, k6, rfl, ?_, ?_⟩
    · rw [k2 12 (by decide) (by decide) (by decide) (by decide), x82, y82]; rfl
    · rw [k2 13 (by decide) (by decide) (by decide) (by decide), x82, y82]; rfl
  have kz : k.1 88 = Tz (h.1 88) := by
    funext j
    rw [k1.2.1 88 (by decide)]
    unfold Tz
    by_cases hj : j < 110
    · rw [if_pos hj]; exact g3 j hj
    · rw [if_neg hj]; exact g4 j (by omega)
  have kT : T00 (Tz (h.1 88)) := Tz_0
  obtain ⟨u, u1, u2, u3, u4⟩ := m_loop (L := L) (xs := xs) (d := d) (l1 := nI 110) ht hn (n + 1) 0 0 (Tz (h.1 88)) k (by omega) (by omega) (by omega) ⟨kT 22 (by omega), fun _ => kT, fun e => absurd rfl e⟩ kR kX kz
  have uR : u.2.2 = xm_R0 t := by rw [u1.1]; exact kR
  have uh : u.2 = h.2 := by rw [u1.1, k1.1, g1]
  have uq : ∀ q, q ≠ 82 → q ≠ 88 → u.1 q = h.1 q := fun q q1 q2 => by rw [u1.2.1 q q1 q2, k1.2.1 q q1, gq q q1 q2]
  have u5 : u.1 82 5 = 0 := by rw [u1.2.2, k1.2.2, x82, y82]; rfl
  have enter : ∀ ro ho, xm_E (xm_X0 L xs) xm_P (d + 14) co_X11_linen 30 [some (.ref 82), some (.int (nI 110))] [] u ro ho → xm_V (xm_X0 L xs) xm_P (d + 15) 196 [.ref 82] h ro ho := fun ro ho K =>
    v_X11_linen (d := d + 14) (s_X11_linen_0_0 (d := d + 7) (g0 ro ho (s_X11_linen_18_0 (d := d + 7) (by decide) V1 (u4 ro ho K))))
  cases hx : ploop n B (n + 1) 0 (Tz (h.1 88)) 0 with
  | error e =>
    rw [hx] at u2
    have uX : MX n B u (.error e) := u2
    have ub : F_X11_good u t = 0 := uX.bad
    obtain ⟨-, -, p, -, -, -, -, -, b1, b2, b3⟩ := uX
    exact ⟨-4, u, enter _ _ (s_X11_linen_30_0 (d := d + 7) uR ht ub), uh, fun q q1 q2 _ => uq q q1 q2, u5, b2, b3, rfl, uq 83 (by decide) (by decide)⟩
  | ok a =>
    rw [hx] at u2
    obtain ⟨uX, u88⟩ := u2
    have hend := u3 a hx
    have hst := uX.st
    have cpy : ∀ m i (z : xm_H), m + i = 110 → z.2 = h.2 → (∀ q, q ≠ 83 → z.1 q = u.1 q) → (∀ j, j < i → z.1 83 j = a.1 j) → ∃ g', xm_E (xm_X0 L xs) xm_P (d + 14) co_X11_linen 46 [some (.ref 82), some (.int (nI i))] [] z (some (.int (a.1 22))) g' ∧ g'.2 = h.2 ∧ (∀ q, q ≠ 83 → g'.1 q = u.1 q) ∧ (∀ j, j < 110 → g'.1 83 j = a.1 j) := by
      intro m
      induction m with
      | zero =>
        intro i z hi a1 a2 a3
        have : i = 110 := by omega
        subst this
        have E := s_X11_linen_46_0 (L := L) (xs := xs) (d := d + 7) (h := z) (t := t) (l1 := nI 110) (by rw [a1]; exact hR) ht (by decide)
        rw [a3 22 (by omega)] at E
        exact ⟨z, E, a1, a2, a3⟩
      | succ m ih =>
        intro i z hi a1 a2 a3
        have zR : z.2.2 = xm_R0 t := by rw [a1]; exact hR
        obtain ⟨g', b0, b⟩ := ih (i + 1) (xm_si z 83 i (z.1 88 i)) (by omega) a1 (fun q hq => by rw [xm_rn hq]; exact a2 q hq) (fun j hj => by
          by_cases hji : j = i
          · rw [hji, xm_ra, a2 88 (by decide), u88]
          · rw [xm_rk hji]; exact a3 j (by omega))
        refine ⟨g', s_X11_linen_46_1 (d := d + 7) zR ht (nI_ge (b := 110) (by omega) (by decide)) (nI_in (by omega) (by decide)) ?_, b⟩
        rw [nI_clamp (by omega), nI_1]
        exact b0
    obtain ⟨g', b0, b1, b2, b3⟩ := cpy 110 0 u (by omega) uh (fun _ _ => rfl) (fun j hj => absurd hj (by omega))
    have E := s_X11_linen_30_3 (L := L) (xs := xs) (d := d + 7) (l1 := nI 110) uR ht (by rw [show F_X11_good u t = 1 from uX.good]; exact n0) (by rw [hst.2.2.2.1, hend]; rfl) b0
    exact ⟨_, g', enter _ _ E, b1, fun q q1 q2 q3 => by rw [b2 q q3, uq q q1 q2], by rw [b2 82 (by decide)]; exact u5, by rw [b2 82 (by decide)]; exact hst.2.2.2.2.2.1, by rw [b2 82 (by decide)]; exact hst.2.2.2.2.2.2, rfl, b3⟩
end OPS
