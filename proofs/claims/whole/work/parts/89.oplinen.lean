/-! linen: both. -/
section OPS
variable {L : Nat} {xs : Nat → Int32} {d : Nat} {SI : (Nat → Nat → Int32) → (Nat → Nat → Int64) → Prop}
theorem wf_0 {T : Nat → Int32} (h : T00 T) : rl_wf T := by
  have z : ∀ k, k < 110 → rl_in (T k) 0 0 := fun k hk => ⟨0, by omega, by omega, h k hk⟩
  have zz : ∀ k b, k < 110 → rl_in (T k) 0 b := fun k b hk => ⟨0, by omega, by omega, h k hk⟩
  refine ⟨zz 22 1000 (by omega), fun _ => h, fun e => absurd (h 22 (by omega)) e, zz 11 50 (by omega), zz 12 50 (by omega), Or.inl (h 13 (by omega)), zz 18 999 (by omega), ⟨0, by omega, h 19 (by omega), fun j hj => absurd hj (by omega)⟩, ⟨0, by omega, h 20 (by omega), fun j hj => absurd hj (by omega)⟩, ⟨0, by omega, h 21 (by omega), fun j hj => absurd hj (by omega)⟩, ⟨0, by omega, h 23 (by omega), fun j hj => absurd hj (by omega)⟩⟩
theorem op_linen : xm_opi (xm_X0 L xs) (d + 20) (Rel SI) 4 196 [] := by
  intro h hr
  obtain ⟨t, ht, hR, ⟨n, hn, e1, e5, hb⟩, hf, hw, hli, hwk, him, hro, hsi⟩ := hr
  have hex : ∀ j, ∃ c, j < n → c < 256 ∧ h.1 2 j = x8 c := by
    intro j
    by_cases hj : j < n
    · obtain ⟨-, b, eb⟩ := hb j hj
      obtain ⟨c, h1, h2⟩ := x8_of b
      exact ⟨c, fun _ => ⟨h1, by rw [eb, h2]⟩⟩
    · exact ⟨0, fun hh => absurd hh hj⟩
  let B : Nat → Nat := fun j => Classical.choose (hex j)
  have hB : ∀ j, j < n → B j < 256 ∧ h.1 2 j = x8 (B j) := fun j hj => Classical.choose_spec (hex j) hj
  have hB6 : ∀ j, j < n → B j < 256 ∧ h.1 86 j = x8 (B j) := fun j hj => ⟨(hB j hj).1, by rw [← (hb j hj).1]; exact (hB j hj).2⟩
  clear_value B
  have hs : ∃ s, s = 18 - t := ⟨_, rfl⟩
  obtain ⟨s, hs⟩ := hs
  have hs' : s = 5 ∨ s = 13 := by omega
  have r02 : h.2.2 0 2 = some s := by rw [hR, R0_2, hs]
  obtain ⟨h1, v1, p1, q1, s1, s2, s3⟩ := v_clear (L := L) (xs := xs) (d := d + 17) hR hs'
  have R1 : h1.2.2 = xm_R0 t := by rw [p1]; exact hR
  obtain ⟨h3, v3, f3, x3⟩ := c_begin (L := L) (xs := xs) (d := d + 10) (n := n) (B := B) R1 ht hn (by rw [q1 1 (by omega)]; exact e1) (fun j hj => ⟨(hB j hj).1, by rw [q1 2 (by omega)]; exact (hB j hj).2⟩)
  have R3 : h3.2.2 = xm_R0 t := by rw [f3.1]; exact R1
  have L3 : LR s h3 (Tz (h.1 88)) := LR_0 Tz_0 (fun j hj => by rw [f3.2 s (by omega)]; exact s1 j hj) (by rw [f3.2 (s + 1) (by omega)]; exact s2)
  obtain ⟨i', g, hi', gF, gC, gW, gE⟩ := c_loop (L := L) (xs := xs) (d := d + 2) (B := B) ht hs hn (n + 1) 0 0 (Tz (h.1 88)) h3 (by omega) (by omega) (by omega) ⟨Tz_0 22 (by omega), fun _ => Tz_0, fun e => absurd rfl e⟩ R3 x3 L3 (fun _ k hk => by rw [f3.2 (s + 2) (by omega)]; exact s3 k hk)
  have gR : g.2.2 = xm_R0 t := by rw [gF.1]; exact R3
  have gh : g.2 = h.2 := by rw [gF.1, f3.1, p1]
  have gq : ∀ q, q ≠ 1 → (q < s ∨ s + 7 < q) → g.1 q = h.1 q := fun q a1 a2 => by rw [gF.2 q a1 a2, f3.2 q a1, q1 q (by omega)]
  have enter : ∀ ro ho, xm_E (xm_X0 L xs) xm_P (d + 19) co_X10_linen 8 [some (.ref 0), some (.int (nI i'))] [] g ro ho → xm_V (xm_X0 L xs) xm_P (d + 20) 4 [.ref 0] h ro ho := fun ro ho K =>
    v_X10_linen (d := d + 19) (s_X10_linen_0_0 (d := d + 12) ht r02 v1 (xs_lin hs') R1 v3 (gE ro ho K))
  have n0 : ¬ (1 : Int32) = 0 := by decide
  cases hx : ploop n B (n + 1) 0 (Tz (h.1 88)) 0 with
  | error e =>
    rw [hx] at gC
    have gX : CX n B g (.error e) := gC
    obtain ⟨-, -, p, -, -, -, -, b1, b2, b3⟩ := gX
    have hgo : F_X6_goesOn g t = 0 := by
      unfold F_X6_goesOn
      rw [if_neg (by rw [b2]; exact nz123 b1)]
    have cf : ¬ ((xm_si g 1 1 (0 : Int32)).1 1 2 = (0 : Int32)) := by rw [xm_rk (by decide), b2]; exact nz123 b1
    have V1 : xm_V (xm_X0 L xs) xm_P (d + 20) 4 [.ref 0] h (some (.int (-4))) (xm_si g 1 1 (0 : Int32)) := by
      have V : xm_V (xm_X0 L xs) xm_P (d + 20) 4 [.ref 0] h (some (.int (-4))) (xm_si g 1 1 (0 : Int32)) := by
        apply enter
        by_cases hii : (1000 : Int32) ≤ nI i'
        · exact s_X10_linen_8_1 (d := d + 12) gR ht hii cf
        · exact s_X10_linen_8_3 (d := d + 12) gR ht hii hgo cf
      exact V
    have k88 : (xm_si g 1 1 (0 : Int32)).1 88 = h.1 88 := by rw [xm_rn (by decide), gq 88 (by decide) (by omega)]
    obtain ⟨v, k, V2, k1, k2, k3, k4⟩ := m_linen (L := L) (xs := xs) (d := d + 5) (h := xm_si g 1 1 (0 : Int32)) (B := B) gR ht hn (by rw [xm_rn (by decide), gq 82 (by decide) (by omega)]; exact e5) (fun j hj => ⟨(hB6 j hj).1, by rw [xm_rn (by decide), gq 86 (by decide) (by omega)]; exact (hB6 j hj).2⟩)
    rw [k88, hx] at k4
    obtain ⟨z1, z2, rfl, z4⟩ := k4
    refine ⟨_, _, _, V1, V2, ?_⟩
    have kq : ∀ q, q ≠ 82 → q ≠ 88 → q ≠ 1 → (q < s ∨ s + 7 < q) → k.1 q = h.1 q := fun q a1 a2 a3 a4 => by
      by_cases h83 : q = 83
      · rw [h83, z4, xm_rn (by decide), gq 83 (by decide) (by omega)]
      · rw [k2 q a1 a2 h83, xm_rn a3, gq q a3 a4]
    have kh : k.2 = h.2 := by rw [k1]; exact gh
    refine ⟨t, ht, by rw [kh]; exact hR, ⟨0, by omega, ?_, k3, fun j hj => absurd hj (by omega)⟩, ⟨?_, ?_⟩, ?_, ?_, ?_, fun m hm => ?_, fun m hm => ?_, ?_⟩
    · rw [k2 1 (by decide) (by decide) (by decide), xm_ra]; rfl
    · rw [k2 1 (by decide) (by decide) (by decide), xm_rk (by decide), z1, b2]
    · rw [k2 1 (by decide) (by decide) (by decide), xm_rk (by decide), z2, b3]
    · rw [kq 83 (by omega) (by omega) (by omega) (by omega)]; exact hw
    · rw [kq 83 (by omega) (by omega) (by omega) (by omega), kq t (by omega) (by omega) (by omega) (by omega), kq (t + 1) (by omega) (by omega) (by omega) (by omega), kq (t + 2) (by omega) (by omega) (by omega) (by omega), kq (t + 3) (by omega) (by omega) (by omega) (by omega), kq (t + 4) (by omega) (by omega) (by omega) (by omega), kq (t + 5) (by omega) (by omega) (by omega) (by omega), kq (t + 6) (by omega) (by omega) (by omega) (by omega), kq (t + 7) (by omega) (by omega) (by omega) (by omega)]
      exact hli
    · rw [kq 83 (by omega) (by omega) (by omega) (by omega), kq 3 (by omega) (by omega) (by omega) (by omega), kq 4 (by omega) (by omega) (by omega) (by omega)]
      exact hwk
    · have h6 := him m hm
      have hrow : ∀ j, j < 10 → k.1 (22 + 10 * m + j) = h.1 (22 + 10 * m + j) := fun j hj => kq _ (by omega) (by omega) (by omega) (by omega)
      unfold rl_im at h6 ⊢
      rw [kq 85 (by omega) (by omega) (by omega) (by omega), kq 84 (by omega) (by omega) (by omega) (by omega)]
      simp only [hrow 0 (by omega), hrow 1 (by omega), hrow 2 (by omega), hrow 3 (by omega), hrow 4 (by omega), hrow 5 (by omega), hrow 6 (by omega), hrow 7 (by omega), hrow 8 (by omega), hrow 9 (by omega)]
      exact h6
    · have h6 := hro m hm
      unfold rl_row at h6 ⊢
      rw [kq (53 + 2 * m) (by omega) (by omega) (by omega) (by omega), kq 99 (by omega) (by omega) (by omega) (by omega), kq 100 (by omega) (by omega) (by omega) (by omega), kh]
      exact h6
    · have e1 : (fun p => if p < 12 then k.1 (61 + p) else fun _ => 0) = (fun p => if p < 12 then h.1 (61 + p) else fun _ => 0) := by
        funext p
        by_cases hp : p < 12
        · rw [if_pos hp, if_pos hp, kq (61 + p) (by omega) (by omega) (by omega) (by omega)]
        · rw [if_neg hp, if_neg hp]
      rw [e1, kh]
      exact hsi
  | ok a =>
    rw [hx] at gC
    obtain ⟨gX, gL⟩ := gC
    obtain ⟨aW, aK⟩ := gW a hx
    have gst := gX.st
    have hgo : F_X6_goesOn g t = 0 := by
      unfold F_X6_goesOn
      rw [if_pos gst.2.2.2.2.1, if_pos (by rw [gst.2.2.2.1, aK]; rfl)]
    let y : xm_H := xm_sr (xm_sr (xm_si g 1 1 (0 : Int32)) 3 0 s) 0 2 t
    have yR : y.2.2 = xm_R0 s := R0_swap ht hs gR
    have y1 : y.1 = (xm_si g 1 1 (0 : Int32)).1 := rfl
    have y21 : y.2.1 = g.2.1 := rfl
    let x0 : Int32 := F_X0_firstState y s
    have VB : xm_V (xm_X0 L xs) xm_P (d + 19) 31 [.ref 3] y none (hC y x0) := v_begin (L := L) (xs := xs) (d := d + 11) yR hs' rfl
    have cf : (xm_si g 1 1 (0 : Int32)).1 1 2 = (0 : Int32) := by rw [xm_rk (by decide)]; exact gst.2.2.2.2.1
    have ry1 : y.2.2 0 1 = some 3 := by rw [yR]; rfl
    have cR : (hC y x0).2.2 = xm_R0 s := yR
    have rc1 : (hC y x0).2.2 0 1 = some 3 := by rw [cR]; rfl
    have rc2 : (hC y x0).2.2 3 0 = some s := by rw [cR]; rfl
    have g01 : g.2.2 0 1 = some 3 := by rw [gR]; rfl
    have g00 : g.2.2 0 0 = some 1 := by rw [gR]; rfl
    have g30 : g.2.2 3 0 = some t := by rw [gR]; rfl
    have g02 : g.2.2 0 2 = some s := by rw [gR, R0_2, hs]
    have cs : ∀ q, q ≠ 3 → q ≠ 1 → (hC y x0).1 q = g.1 q := fun q q3 q1 => by rw [hC_q q3, y1, xm_rn q1]
    have ev : (hC y x0).1 s 0 = a.1 22 := by
      rw [cs s (by omega) (by omega)]
      unfold LR rl_lin at gL
      exact gL.1
    have V1 : xm_V (xm_X0 L xs) xm_P (d + 20) 4 [.ref 0] h (some (.int (a.1 22))) (hC y x0) := by
      have V : xm_V (xm_X0 L xs) xm_P (d + 20) 4 [.ref 0] h (some (.int ((hC y x0).1 s 0))) (hC y x0) := by
        apply enter
        by_cases hii : (1000 : Int32) ≤ nI i'
        · exact p_X10_linen_8_0 (X := xm_X0 L xs) (P := xm_P) (d := d + 19) hii xs_0 g00 xs_1 g00 xs_1 cf g01 xs_3 g30 g02 ry1 VB xs_3 rc1 xs_3 rc2 (xs_lin hs')
        · exact p_X10_linen_8_2 (X := xm_X0 L xs) (P := xm_P) (d := d + 19) hii xs_0 g00 (f_X6_goesOn (d := d + 18) gR ht) xs_1 hgo g00 xs_1 g00 xs_1 cf g01 xs_3 g30 g02 ry1 VB xs_3 rc1 xs_3 rc2 (xs_lin hs')
      rw [ev] at V
      exact V
    have k88 : (hC y x0).1 88 = h.1 88 := by rw [cs 88 (by decide) (by decide), gq 88 (by decide) (by omega)]
    obtain ⟨v, k, V2, k1, k2, k3, k4⟩ := m_linen (L := L) (xs := xs) (d := d + 5) (h := hC y x0) (B := B) cR hs' hn (by rw [cs 82 (by decide) (by decide), gq 82 (by decide) (by omega)]; exact e5) (fun j hj => ⟨(hB6 j hj).1, by rw [cs 86 (by decide) (by decide), gq 86 (by decide) (by omega)]; exact (hB6 j hj).2⟩)
    rw [k88, hx] at k4
    obtain ⟨z1, z2, rfl, z4⟩ := k4
    refine ⟨_, _, _, V1, V2, ?_⟩
    have kq : ∀ q, q ≠ 82 → q ≠ 88 → q ≠ 83 → q ≠ 1 → q ≠ 3 → k.1 q = g.1 q := fun q a1 a2 a3 a4 a5 => by rw [k2 q a1 a2 a3, cs q a5 a4]
    have kg : ∀ q, q ≠ 82 → q ≠ 88 → q ≠ 83 → q ≠ 1 → q ≠ 3 → (q < s ∨ s + 7 < q) → k.1 q = h.1 q := fun q a1 a2 a3 a4 a5 a6 => by rw [kq q a1 a2 a3 a4 a5, gq q a4 a6]
    have kh2 : k.2.2 = xm_R0 s := by rw [k1]; exact cR
    have kh1 : k.2.1 = h.2.1 := by
      rw [k1]
      show g.2.1 = h.2.1
      rw [gh]
    have wz : wsm a.1 (k.1 83) := z4
    have awf : rl_wf a.1 := by
      by_cases h0 : i' = 0
      · have t0 := aW.2.1 h0
        exact wf_0 t0
      · exact (aW.2.2 h0).wf aW.1 (by omega) hi'
    have a23 : a.1 23 = 0 := by
      by_cases h0 : i' = 0
      · exact aW.2.1 h0 23 (by omega)
      · obtain ⟨-, -, -, -, -, -, -, -, -, -, -, -, -, e23⟩ := aW.2.2 h0
        exact e23
    have kwf : rl_wf (k.1 83) := rl_wf_s wz awf
    have k23 : k.1 83 23 = 0 := by rw [wz 23 (by omega)]; exact a23
    have klin : rl_lin (k.1 s) (k.1 (s + 1)) (k.1 (s + 2)) (k.1 (s + 3)) (k.1 (s + 4)) (k.1 (s + 5)) (k.1 (s + 6)) (k.1 (s + 7)) (k.1 83) := by
      rw [kq s (by omega) (by omega) (by omega) (by omega) (by omega), kq (s + 1) (by omega) (by omega) (by omega) (by omega) (by omega), kq (s + 2) (by omega) (by omega) (by omega) (by omega) (by omega), kq (s + 3) (by omega) (by omega) (by omega) (by omega) (by omega), kq (s + 4) (by omega) (by omega) (by omega) (by omega) (by omega), kq (s + 5) (by omega) (by omega) (by omega) (by omega) (by omega), kq (s + 6) (by omega) (by omega) (by omega) (by omega) (by omega), kq (s + 7) (by omega) (by omega) (by omega) (by omega) (by omega)]
      exact rl_lin_s wz gL
    have k3' : ∀ j, k.1 3 j = (hC y x0).1 3 j := fun j => by rw [k2 3 (by decide) (by decide) (by decide)]
    refine ⟨s, hs', kh2, ⟨0, by omega, ?_, k3, fun j hj => absurd hj (by omega)⟩, ⟨?_, ?_⟩, kwf, klin, ?_, fun m hm => ?_, fun m hm => ?_, ?_⟩
    · rw [k2 1 (by decide) (by decide) (by decide), hC_q (by decide), y1, xm_ra]; rfl
    · rw [k2 1 (by decide) (by decide) (by decide), hC_q (by decide), y1, xm_rk (by decide), z1]; exact gst.2.2.2.2.1
    · rw [k2 1 (by decide) (by decide) (by decide), hC_q (by decide), y1, xm_rk (by decide), z2]; exact gst.2.2.2.2.2
    · refine ⟨by rw [k3', hC_32, k23], fun i hi hlt => ?_, fun hne => ?_⟩
      · rw [k23] at hlt
        exact absurd hlt (nI_pos (by omega))
      · have hr := kwf.2.2.1 hne
        obtain ⟨s0, q0, q1', q2'⟩ := first_x (h := k) (t := s) klin.2.1 klin.2.2.1 hr.1 hr.2.1
        have ex : F_X0_firstState k s = x0 := by
          show F_X0_firstState k s = F_X0_firstState y s
          unfold F_X0_firstState
          rw [kq s (by omega) (by omega) (by omega) (by omega) (by omega), y1, xm_rn (by omega)]
        have e0 : (k.1 83 23).toNatClampNeg = 0 := by rw [k23]; rfl
        refine ⟨s0, by rw [e0]; exact q0, q1', ?_, ?_⟩
        · rw [k3', hC_33, ← ex, q2']
        · rw [k3', hC_34, e0]; rfl
    · have h6 := him m hm
      have hrow : ∀ j, j < 10 → k.1 (22 + 10 * m + j) = h.1 (22 + 10 * m + j) := fun j hj => kg _ (by omega) (by omega) (by omega) (by omega) (by omega) (by omega)
      unfold rl_im at h6 ⊢
      rw [kg 85 (by omega) (by omega) (by omega) (by omega) (by omega) (by omega), kg 84 (by omega) (by omega) (by omega) (by omega) (by omega) (by omega)]
      simp only [hrow 0 (by omega), hrow 1 (by omega), hrow 2 (by omega), hrow 3 (by omega), hrow 4 (by omega), hrow 5 (by omega), hrow 6 (by omega), hrow 7 (by omega), hrow 8 (by omega), hrow 9 (by omega)]
      exact h6
    · have h6 := hro m hm
      unfold rl_row at h6 ⊢
      rw [kg (53 + 2 * m) (by omega) (by omega) (by omega) (by omega) (by omega) (by omega), kg 99 (by omega) (by omega) (by omega) (by omega) (by omega) (by omega), kg 100 (by omega) (by omega) (by omega) (by omega) (by omega) (by omega), kh1]
      exact h6
    · have e1 : (fun p => if p < 12 then k.1 (61 + p) else fun _ => 0) = (fun p => if p < 12 then h.1 (61 + p) else fun _ => 0) := by
        funext p
        by_cases hp : p < 12
        · rw [if_pos hp, if_pos hp, kg (61 + p) (by omega) (by omega) (by omega) (by omega) (by omega) (by omega)]
        · rw [if_neg hp, if_neg hp]
      rw [e1, kh1]
      exact hsi
end OPS
