/-! The class reads a line. -/
section OPS
variable {L : Nat} {xs : Nat → Int32} {d : Nat}
theorem tkl_mov (f : Nat → Nat → Bool) : tkl sMov f 38 0 0 0 = (if f 0 5 then some 0 else if f 6 11 then some 1 else if f 12 16 then some 2 else if f 17 21 then some 3 else if f 22 29 then some 4 else if f 30 37 then some 5 else none) := rfl
theorem tkl_kin (f : Nat → Nat → Bool) : tkl sKin f 32 0 0 0 = (if f 0 4 then some 0 else if f 5 10 then some 1 else if f 11 15 then some 2 else if f 16 21 then some 3 else if f 22 26 then some 4 else if f 27 31 then some 5 else none) := rfl
theorem tkl_act (f : Nat → Nat → Bool) : tkl sAct f 21 0 0 0 = (if f 0 3 then some 0 else if f 4 10 then some 1 else if f 11 15 then some 2 else if f 16 20 then some 3 else none) := rfl
theorem tkl_fac (f : Nat → Nat → Bool) : tkl sFac f 18 0 0 0 = (if f 0 5 then some 0 else if f 6 10 then some 1 else if f 11 17 then some 2 else none) := rfl
theorem tkl_hem (f : Nat → Nat → Bool) : tkl sHem f 29 0 0 0 = (if f 0 3 then some 0 else if f 4 10 then some 1 else if f 11 15 then some 2 else if f 16 21 then some 3 else if f 22 24 then some 4 else if f 25 28 then some 5 else none) := rfl
theorem mov_lt {n p i : Nat} {B : Nat → Nat} (h : ptk n B (.ok p) sMov = some i) : i < 6 := by
  have e : ptk n B (.ok p) sMov = tkl sMov (rsw n B (.ok p) sMov) 38 0 0 0 := rfl
  rw [e, tkl_mov] at h
  split at h
  · cases h; decide
  · split at h
    · cases h; decide
    · split at h
      · cases h; decide
      · split at h
        · cases h; decide
        · split at h
          · cases h; decide
          · split at h
            · cases h; decide
            · cases h
theorem kin_lt {n p i : Nat} {B : Nat → Nat} (h : ptk n B (.ok p) sKin = some i) : i < 6 := by
  have e : ptk n B (.ok p) sKin = tkl sKin (rsw n B (.ok p) sKin) 32 0 0 0 := rfl
  rw [e, tkl_kin] at h
  split at h
  · cases h; decide
  · split at h
    · cases h; decide
    · split at h
      · cases h; decide
      · split at h
        · cases h; decide
        · split at h
          · cases h; decide
          · split at h
            · cases h; decide
            · cases h
theorem c_call {h : xm_H} {t s n c p : Nat} {l2 : Int32} {B : Nat → Nat} {T : Nat → Int32} (hR : h.2.2 = xm_R0 t) (ht : t = 5 ∨ t = 13) (hs : s = 5 ∨ s = 13) (hn : n ≤ 1000) (hc : CX n B h (.ok (ten n B p))) (hT : LR s h T) (hcc : c < 6) (e19 : T 19 = nI c) : ∃ g, xm_V (xm_X0 L xs) xm_P (d + 15) 24 [.ref 1, .ref s, .int l2] h none g ∧ SF s h g ∧ CR n B s g (pcall n B T c p) := by
  have hs1 : s ≠ 1 := by omega
  have e6 : h.1 s 6 = nI c := by have := hT; unfold LR rl_lin at this; rw [this.2.2.2.2.2.2.1, e19]
  obtain ⟨g1, v2, g2, a0, a1, a2, a3, a4, a5⟩ := c_wc (L := L) (xs := xs) (d := d) hR ht hn hc sx_1018 (by decide) sx_1020
  have R1 : g1.2.2 = xm_R0 t := by rw [a2.1]; exact hR
  have R2 : g2.2.2 = xm_R0 t := by rw [a3.1]; exact hR
  obtain ⟨g3, v4, g4, b0, b1, b2, b3, b4, b5⟩ := c_wc (L := L) (xs := xs) (d := d) (h := xm_si g2 (s + 3) c v2) R2 ht hn (a4.si (by omega)) sx_1022 (by decide) sx_1020
  have R3 : g3.2.2 = xm_R0 t := by rw [b2.1]; exact R2
  have x1 : g1.1 s 6 = nI c := by rw [a2.2 s hs1]; exact e6
  have x3 : g3.1 s 6 = nI c := by rw [b2.2 s hs1, xm_rn (by omega), a3.2 s hs1]; exact e6
  have V := v_X6_readCall (d := d + 14) (s_X6_readCall_0_0 (L := L) (xs := xs) (d := d + 7) (l2 := l2) (xs_lin hs) (by rw [e6]; exact nI_lt (b := 6) hcc (by decide)) a0 (by rw [R1]; exact rr_lin hs (by decide) (by decide)) a1 (xs_l6 hs).2.1 (by rw [x1]; exact nI_in hcc (by decide)) (by rw [x1, nI_clamp (by omega)]; exact b0) (by rw [R3]; exact rr_lin hs (by decide) (by decide)) b1 (xs_l6 hs).2.2.1 (by rw [x3]; exact nI_in hcc (by decide)))
  rw [x3, nI_clamp (by omega), xm_rn (show s ≠ s + (15 - 11) by omega), b3.2 s hs1, xm_rn (show s ≠ s + 3 by omega), a3.2 s hs1, e6, nI_1] at V
  refine ⟨_, V, ?_, ?_⟩
  · exact ((((XF.sf a3).trans (SF.si (by omega) (by omega))).trans (XF.sf b3)).trans (SF.si (by omega) (by omega))).trans (SF.si (by omega) (by omega))
  · refine CR.fin ((b4.si (by omega)).si (by omega)) (fun q hq => ?_)
    have eb' := ev1_ok hq b5
    obtain ⟨p9, q9, -⟩ := ebn_ok (er2_ok hq)
    obtain ⟨p8, q8, -⟩ := ebn_ok q9
    have ea' := ev1_ok q8 a5
    rw [← ea', ← eb']
    unfold LR at hT ⊢
    rw [si_up, xm_rn (show s ≠ s + (15 - 11) by omega), b3.2 s hs1, xm_rn (show s ≠ s + 3 by omega), a3.2 s hs1]
    rw [xm_rn (show s + 1 ≠ s by omega), xm_rn (show s + 1 ≠ s + (15 - 11) by omega), b3.2 (s + 1) (by omega), xm_rn (show s + 1 ≠ s + 3 by omega), a3.2 (s + 1) (by omega)]
    rw [xm_rn (show s + 2 ≠ s by omega), xm_rn (show s + 2 ≠ s + (15 - 11) by omega), b3.2 (s + 2) (by omega), xm_rn (show s + 2 ≠ s + 3 by omega), a3.2 (s + 2) (by omega)]
    rw [xm_rn (show s + 3 ≠ s by omega), xm_rn (show s + 3 ≠ s + (15 - 11) by omega), b3.2 (s + 3) (by omega), si_up, a3.2 (s + 3) (by omega)]
    rw [xm_rn (show s + 4 ≠ s by omega), show s + (15 - 11) = s + 4 by omega, si_up, b3.2 (s + 4) (by omega), xm_rn (show s + 4 ≠ s + 3 by omega), a3.2 (s + 4) (by omega)]
    rw [xm_rn (show s + 5 ≠ s by omega), xm_rn (show s + 5 ≠ s + 4 by omega), b3.2 (s + 5) (by omega), xm_rn (show s + 5 ≠ s + 3 by omega), a3.2 (s + 5) (by omega)]
    rw [xm_rn (show s + 6 ≠ s by omega), xm_rn (show s + 6 ≠ s + 4 by omega), b3.2 (s + 6) (by omega), xm_rn (show s + 6 ≠ s + 3 by omega), a3.2 (s + 6) (by omega)]
    rw [xm_rn (show s + 7 ≠ s by omega), xm_rn (show s + 7 ≠ s + 4 by omega), b3.2 (s + 7) (by omega), xm_rn (show s + 7 ≠ s + 3 by omega), a3.2 (s + 7) (by omega)]
    exact rl_call hcc e19 hT
theorem c_slips {h : xm_H} {t s n p : Nat} {B : Nat → Nat} {T : Nat → Int32} (hR : h.2.2 = xm_R0 t) (ht : t = 5 ∨ t = 13) (hs : s = 5 ∨ s = 13) (hn : n ≤ 1000) (hc : CX n B h (.ok (ten n B p))) (hT : LR s h T) : ∃ g, xm_V (xm_X0 L xs) xm_P (d + 15) 26 [.ref 1, .ref s] h none g ∧ SF s h g ∧ CR n B s g (pslips n B T p) := by
  have hs1 : s ≠ 1 := by omega
  obtain ⟨g1, v2, g2, a0, a1, a2, a3, a4, a5⟩ := c_wn (L := L) (xs := xs) (d := d) (lo := 0) (hi := 50) hR ht hn hc sx_1018 (by decide) (by decide) (by decide)
  have R2 : g2.2.2 = xm_R0 t := by rw [a3.1]; exact hR
  obtain ⟨g3, v4, g4, b0, b1, b2, b3, b4, b5⟩ := c_wn (L := L) (xs := xs) (d := d) (h := xm_si g2 s 7 v2) (lo := 0) (hi := 50) R2 ht hn (a4.si (by omega)) sx_1022 (by decide) (by decide) (by decide)
  have V := v_X6_readSlips (d := d + 14) (s_X6_readSlips_0_0 (L := L) (xs := xs) (d := d + 7) a0 a1 (xs_lin hs) b0 b1)
  refine ⟨_, V, (((XF.sf a3).trans (SF.si (by omega) (by omega))).trans (XF.sf b3)).trans (SF.si (by omega) (by omega)), ?_⟩
  refine CR.fin (b4.si (by omega)) (fun q hq => ?_)
  have eb' := ev1_ok hq b5
  obtain ⟨p9, q9, -⟩ := ebn_ok (er2_ok hq)
  obtain ⟨p8, q8, -⟩ := ebn_ok q9
  have ea' := ev1_ok q8 a5
  rw [← ea', ← eb']
  have oth : ∀ j, 1 ≤ j → (xm_si g4 s 8 v4).1 (s + j) = h.1 (s + j) := fun j hj => by rw [xm_rn (by omega), b3.2 _ (by omega), xm_rn (by omega), a3.2 _ (by omega)]
  unfold LR at hT ⊢
  rw [si_up, b3.2 s hs1, si_up, a3.2 s hs1, oth 1 (by omega), oth 2 (by omega), oth 3 (by omega), oth 4 (by omega), oth 5 (by omega), oth 6 (by omega), oth 7 (by omega)]
  exact rl_slips hT
theorem c_wish {h : xm_H} {t s n p : Nat} {B : Nat → Nat} {T : Nat → Int32} (hR : h.2.2 = xm_R0 t) (ht : t = 5 ∨ t = 13) (hs : s = 5 ∨ s = 13) (hn : n ≤ 1000) (hc : CX n B h (.ok (ten n B p))) (hT : LR s h T) : ∃ g, xm_V (xm_X0 L xs) xm_P (d + 15) 27 [.ref 1, .ref s] h none g ∧ SF s h g ∧ CR n B s g (pwish n B T p) := by
  have rw12 : ∀ {z : xm_H}, z.2.2 = xm_R0 t → z.2.2 s 12 = some (s + 1) := fun e => by rw [e]; exact rr_lin hs (by decide) (by decide)
  obtain ⟨g1, v2, g2, a0, a1, a2, a3, a4, a5⟩ := c_wn (L := L) (xs := xs) (d := d) (lo := 1) (hi := 48) hR ht hn hc sx_1002 (by decide) (by decide) (by decide)
  have R1 : g1.2.2 = xm_R0 t := by rw [a2.1]; exact hR
  have R2 : g2.2.2 = xm_R0 t := by rw [a3.1]; exact hR
  obtain ⟨g3, v4, g4, b0, b1, b2, b3, b4, b5⟩ := c_wn (L := L) (xs := xs) (d := d) (h := xm_si g2 (s + 1) 0 v2) (lo := 1) (hi := 48) R2 ht hn (a4.si (by omega)) sx_1004 (by decide) (by decide) (by decide)
  have R3 : g3.2.2 = xm_R0 t := by rw [b2.1]; exact R2
  have R4 : g4.2.2 = xm_R0 t := by rw [b3.1]; exact R2
  obtain ⟨v6, g6, c0, c1, c2, c3⟩ := c_choose (L := L) (xs := xs) (d := d) (h := xm_si g4 (s + 1) 1 v4) R4 ht hn (b4.si (by omega)) sx_1024
  have R6 : g6.2.2 = xm_R0 t := by rw [c1.1]; exact R4
  obtain ⟨v8, g8, f0, f1, f2, f3⟩ := c_choose (L := L) (xs := xs) (d := d) (h := xm_si g6 (s + 1) 2 v6) R6 ht hn (c2.si (by omega)) sx_1026
  have V := v_X6_readWish (d := d + 14) (s_X6_readWish_0_0 (L := L) (xs := xs) (d := d + 7) a0 (xs_lin hs) (rw12 R1) a1 (xs_wish hs) b0 (rw12 R3) b1 (xs_wish hs) (rw12 R4) c0 (xs_wish hs) (rw12 R6) f0 (xs_wish hs))
  refine ⟨_, V, ((((((((XF.sf a3).trans (SF.si (by omega) (by omega))).trans (XF.sf b3)).trans (SF.si (by omega) (by omega))).trans (XF.sf c1)).trans (SF.si (by omega) (by omega))).trans (XF.sf f1)).trans (SF.si (by omega) (by omega))), ?_⟩
  refine CR.fin (f2.si (by omega)) (fun q hq => ?_)
  have ef := ev1_ok hq f3
  obtain ⟨p9, q9, -⟩ := ebn_ok (er2_ok hq)
  have ec := ev1_ok q9 c3
  obtain ⟨p8, q8, -⟩ := ebn_ok (er2_ok q9)
  have eb' := ev1_ok q8 b5
  obtain ⟨p7, q7, -⟩ := ebn_ok (er2_ok q8)
  obtain ⟨p6, q6, -⟩ := ebn_ok q7
  have ea' := ev1_ok q6 a5
  rw [← ea', ← eb', ← ec, ← ef]
  have oth : ∀ q, q ≠ 1 → q ≠ s + 1 → (xm_si g8 (s + 1) 3 v8).1 q = h.1 q := fun q h1 h2 => by rw [xm_rn h2, f1.2 q h1, xm_rn h2, c1.2 q h1, xm_rn h2, b3.2 q h1, xm_rn h2, a3.2 q h1]
  unfold LR at hT ⊢
  rw [oth s (by omega) (by omega), si_up, f1.2 (s + 1) (by omega), si_up, c1.2 (s + 1) (by omega), si_up, b3.2 (s + 1) (by omega), si_up, a3.2 (s + 1) (by omega), oth (s + 2) (by omega) (by omega), oth (s + 3) (by omega) (by omega), oth (s + 4) (by omega) (by omega), oth (s + 5) (by omega) (by omega), oth (s + 6) (by omega) (by omega), oth (s + 7) (by omega) (by omega)]
  exact rl_wish hT
theorem c_pair {h : xm_H} {t s n c p : Nat} {l2 : Int32} {B : Nat → Nat} {T : Nat → Int32} (hR : h.2.2 = xm_R0 t) (ht : t = 5 ∨ t = 13) (hs : s = 5 ∨ s = 13) (hn : n ≤ 1000) (hc : CX n B h (.ok (ten n B p))) (hT : LR s h T) (hcc : c < 4) (e20 : T 20 = nI c) : ∃ g, xm_V (xm_X0 L xs) xm_P (d + 15) 28 [.ref 1, .ref s, .int l2] h none g ∧ SF s h g ∧ CR n B s g (ppair n B T c p) := by
  have hs1 : s ≠ 1 := by omega
  have e6 : h.1 s 10 = nI c := by have := hT; unfold LR rl_lin at this; rw [this.2.2.2.2.2.2.2.2.2.2.1, e20]
  obtain ⟨v2, g2, a1, a3, a4, a5⟩ := c_number (L := L) (xs := xs) (d := d + 5) (lo := 1) (hi := 99) hR ht hn hc (by decide) (by decide)
  have R2 : g2.2.2 = xm_R0 t := by rw [a3.1]; exact hR
  obtain ⟨g3, v4, g4, b0, b1, b2, b3, b4, b5⟩ := c_wn (L := L) (xs := xs) (d := d) (h := xm_si g2 (s + 5) c v2) (lo := 0) (hi := 999) R2 ht hn (a4.si (by omega)) sx_1028 (by decide) (by decide) (by decide)
  have R3 : g3.2.2 = xm_R0 t := by rw [b2.1]; exact R2
  have x3 : g3.1 s 10 = nI c := by rw [b2.2 s hs1, xm_rn (by omega), a3.2 s hs1]; exact e6
  have V := v_X6_readPair (d := d + 14) (s_X6_readPair_0_0 (L := L) (xs := xs) (d := d + 7) (l2 := l2) (v0 := s + 5) (v4 := s + 6) (xs_lin hs) (by rw [e6]; exact nI_lt (b := 4) hcc (by decide)) (by rw [hR]; exact rr_lin hs (by decide) (by decide)) a1 (xs_l6 hs).2.2.2.1 (by rw [e6]; exact nI_in hcc (by decide)) (by rw [e6, nI_clamp (by omega)]; exact b0) (by rw [R3]; exact rr_lin hs (by decide) (by decide)) b1 (xs_l6 hs).2.2.2.2.1 (by rw [x3]; exact nI_in hcc (by decide)))
  rw [x3, nI_clamp (by omega), xm_rn (show s ≠ s + 6 by omega), b3.2 s hs1, xm_rn (show s ≠ s + 5 by omega), a3.2 s hs1, e6, nI_1] at V
  refine ⟨_, V, ((((XF.sf a3).trans (SF.si (by omega) (by omega))).trans (XF.sf b3)).trans (SF.si (by omega) (by omega))).trans (SF.si (by omega) (by omega)), ?_⟩
  refine CR.fin ((b4.si (by omega)).si (by omega)) (fun q hq => ?_)
  have eb' := ev1_ok hq b5
  obtain ⟨p9, q9, -⟩ := ebn_ok (er2_ok hq)
  obtain ⟨p8, q8, -⟩ := ebn_ok q9
  have ea' := ev1_ok q8 a5
  rw [← ea', ← eb']
  have oth : ∀ q, q ≠ 1 → q ≠ s → q ≠ s + 5 → q ≠ s + 6 → (xm_si (xm_si g4 (s + 6) c v4) s 10 (nI (c + 1))).1 q = h.1 q := fun q h1 h2 h3 h4 => by rw [xm_rn h2, xm_rn h4, b3.2 q h1, xm_rn h3, a3.2 q h1]
  unfold LR at hT ⊢
  rw [si_up, xm_rn (show s ≠ s + 6 by omega), b3.2 s hs1, xm_rn (show s ≠ s + 5 by omega), a3.2 s hs1, oth (s + 1) (by omega) (by omega) (by omega) (by omega), oth (s + 2) (by omega) (by omega) (by omega) (by omega), oth (s + 3) (by omega) (by omega) (by omega) (by omega), oth (s + 4) (by omega) (by omega) (by omega) (by omega), oth (s + 7) (by omega) (by omega) (by omega) (by omega)]
  rw [xm_rn (show s + 5 ≠ s by omega), xm_rn (show s + 5 ≠ s + 6 by omega), b3.2 (s + 5) (by omega), si_up, a3.2 (s + 5) (by omega)]
  rw [xm_rn (show s + 6 ≠ s by omega), si_up, b3.2 (s + 6) (by omega), xm_rn (show s + 6 ≠ s + 5 by omega), a3.2 (s + 6) (by omega)]
  exact rl_pair hcc e20 hT
theorem c_pile {h : xm_H} {t s n c p : Nat} {l2 : Int32} {B : Nat → Nat} {T : Nat → Int32} (hR : h.2.2 = xm_R0 t) (ht : t = 5 ∨ t = 13) (hs : s = 5 ∨ s = 13) (hn : n ≤ 1000) (hc : CX n B h (.ok (ten n B p))) (hT : LR s h T) (hcc : c < 6) (e21 : T 21 = nI c) : ∃ g, xm_V (xm_X0 L xs) xm_P (d + 15) 29 [.ref 1, .ref s, .int l2] h none g ∧ SF s h g ∧ CR n B s g (ppile n B T c p) := by
  have hs1 : s ≠ 1 := by omega
  have e6 : h.1 s 11 = nI c := by have := hT; unfold LR rl_lin at this; rw [this.2.2.2.2.2.2.2.2.2.2.2.1, e21]
  obtain ⟨v2, g2, a1, a3, a4, a5⟩ := c_number (L := L) (xs := xs) (d := d + 5) (lo := 1) (hi := 60) hR ht hn hc (by decide) (by decide)
  have V := v_X6_readPile (d := d + 14) (s_X6_readPile_0_0 (L := L) (xs := xs) (d := d + 7) (l2 := l2) (v0 := s + 7) (xs_lin hs) (by rw [e6]; exact nI_lt (b := 6) hcc (by decide)) (by rw [hR]; exact rr_lin hs (by decide) (by decide)) a1 (xs_l6 hs).2.2.2.2.2 (by rw [e6]; exact nI_in hcc (by decide)))
  rw [e6, nI_clamp (by omega), xm_rn (show s ≠ s + 7 by omega), a3.2 s hs1, e6, nI_1] at V
  refine ⟨_, V, (((XF.sf a3).trans (SF.si (by omega) (by omega))).trans (SF.si (by omega) (by omega))), ?_⟩
  refine CR.fin ((a4.si (by omega)).si (by omega)) (fun q hq => ?_)
  have ea' := ev1_ok hq a5
  rw [← ea']
  have oth : ∀ q, q ≠ 1 → q ≠ s → q ≠ s + 7 → (xm_si (xm_si g2 (s + 7) c v2) s 11 (nI (c + 1))).1 q = h.1 q := fun q h1 h2 h3 => by rw [xm_rn h2, xm_rn h3, a3.2 q h1]
  unfold LR at hT ⊢
  rw [si_up, xm_rn (show s ≠ s + 7 by omega), a3.2 s hs1, oth (s + 1) (by omega) (by omega) (by omega), oth (s + 2) (by omega) (by omega) (by omega), oth (s + 3) (by omega) (by omega) (by omega), oth (s + 4) (by omega) (by omega) (by omega), oth (s + 5) (by omega) (by omega) (by omega), oth (s + 6) (by omega) (by omega) (by omega)]
  rw [xm_rn (show s + 7 ≠ s by omega), si_up, a3.2 (s + 7) (by omega)]
  exact rl_pile hcc e21 hT
end OPS
