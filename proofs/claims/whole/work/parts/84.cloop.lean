/-! The class reads line by line. -/
section OPS
variable {L : Nat} {xs : Nat → Int32} {d : Nat}
theorem c_next {h : xm_H} {t s n p : Nat} {B : Nat → Nat} {T : Nat → Int32} (hR : h.2.2 = xm_R0 t) (ht : t = 5 ∨ t = 13) (hs : s = 5 ∨ s = 13) (hn : n ≤ 1000) (hc : CX n B h (.ok p)) (hT : LR s h T) (hW : WV T) : ∃ g, xm_V (xm_X0 L xs) xm_P (d + 16) 23 [.ref 1, .ref s] h none g ∧ SF s h g ∧ CR n B s g (pnext n B T p) := by
  have hs1 : s ≠ 1 := by omega
  obtain ⟨v, g, g0, g1, g2⟩ := c_take (L := L) (xs := xs) (d := d + 2) hR ht hn hc sx_1012
  have R1 : g.2.2 = xm_R0 t := by rw [g1.1]; exact hR
  unfold pnext
  unfold TK at g2
  cases hm : ptk n B (.ok p) sMov with
  | some i =>
    rw [hm] at g2
    obtain ⟨rfl, g3⟩ := g2
    have hi := mov_lt hm
    obtain ⟨k1, v5, k5, a0, a1, a2, a3, a4, a5⟩ := c_wn (L := L) (xs := xs) (d := d + 1) (lo := 1) (hi := 99) R1 ht hn g3 sx_1014 (by decide) (by decide) (by decide)
    have R3 : k1.2.2 = xm_R0 t := by rw [a2.1]; exact R1
    have V := v_X6_readLine (d := d + 15) (s_X6_readLine_0_2 (L := L) (xs := xs) (d := d + 8) (v1 := s + 2) (v4 := s + 2) g0 (nI_pos (by omega)) (xs_lin hs) (by rw [R1]; exact rr_lin hs (by decide) (by decide)) (xs_l6 hs).1 (nI_ge hi (by decide)) a0 (by rw [R3]; exact rr_lin hs (by decide) (by decide)) a1 (xs_l6 hs).1 (nI_in hi (by decide)))
    rw [nI_clamp (by omega)] at V
    refine ⟨_, V, ((XF.sf g1).trans (XF.sf a3)).trans (SF.si (by omega) (by omega)), ?_⟩
    refine CR.fin (a4.si (by omega)) (fun q hq => ?_)
    have ea' := ev1_ok hq a5
    rw [← ea']
    have oth : ∀ q, q ≠ 1 → q ≠ s + 2 → (xm_si k5 (s + 2) i v5).1 q = h.1 q := fun q h1 h2 => by rw [xm_rn h2, a3.2 q h1, g1.2 q h1]
    unfold LR at hT ⊢
    rw [oth s (by omega) (by omega), oth (s + 1) (by omega) (by omega), si_up, a3.2 (s + 2) (by omega), g1.2 (s + 2) (by omega), oth (s + 3) (by omega) (by omega), oth (s + 4) (by omega) (by omega), oth (s + 5) (by omega) (by omega), oth (s + 6) (by omega) (by omega), oth (s + 7) (by omega) (by omega)]
    exact rl_takes hi hT
  | none =>
    rw [hm] at g2
    obtain ⟨rfl, g3⟩ := g2
    have e4 : h.1 1 4 = nI (tst n B p) := hc.st.2.1
    obtain ⟨v', k, k0, k1, k2⟩ := c_take (L := L) (xs := xs) (d := d + 2) R1 ht hn g3 sx_1016
    have R2 : k.2.2 = xm_R0 t := by rw [k1.1]; exact R1
    have F2 : SF s h k := (XF.sf g1).trans (XF.sf k1)
    have row : ∀ q, q ≠ 1 → k.1 q = h.1 q := fun q hq => by rw [k1.2 q hq, g1.2 q hq]
    have hT2 : LR s k T := by
      unfold LR at hT ⊢
      rw [row s (by omega), row (s + 1) (by omega), row (s + 2) (by omega), row (s + 3) (by omega), row (s + 4) (by omega), row (s + 5) (by omega), row (s + 6) (by omega), row (s + 7) (by omega)]
      exact hT
    have enter : ∀ r0 g', xm_V (xm_X0 L xs) xm_P (d + 15) 14 [.ref 1, .ref 1016] g (some (.int r0)) k → xm_E (xm_X0 L xs) xm_P (d + 15) co_X6_readLine 26 [some (.ref 1), some (.ref s), some (.int (nI (tst n B p))), some (.int (-1))] [] g none g' → xm_V (xm_X0 L xs) xm_P (d + 16) 23 [.ref 1, .ref s] h none g' := by
      intro r0 g' _ K
      exact v_X6_readLine (d := d + 15) (s_X6_readLine_0_0 (L := L) (xs := xs) (d := d + 8) g0 (by decide) (by rw [e4]; exact K))
    obtain ⟨-, -, -, -, -, -, -, -, -, -, ⟨c19, h19, e19, -⟩, ⟨c20, h20, e20, -⟩, ⟨c21, h21, e21, -⟩, -⟩ := hW
    have hl := hT2
    unfold LR rl_lin at hl
    have s6 : k.1 s 6 = nI c19 := by rw [hl.2.2.2.2.2.2.1, e19]
    have s10 : k.1 s 10 = nI c20 := by rw [hl.2.2.2.2.2.2.2.2.2.2.1, e20]
    have s11 : k.1 s 11 = nI c21 := by rw [hl.2.2.2.2.2.2.2.2.2.2.2.1, e21]
    clear hl
    unfold TK at k2
    cases hq : ptk n B (.ok p) sKin with
    | none =>
      rw [hq] at k2
      obtain ⟨rfl, k3⟩ := k2
      obtain ⟨g', f0, f1, f2⟩ := c_fail (L := L) (xs := xs) (d := d + 7) (c := 1) (l := tst n B p) (Or.inl rfl) k3
      exact ⟨g', enter _ _ k0 (s_X6_readLine_26_6 (d := d + 8) k0 (Or.inl (by decide)) f0), F2.trans (XF.sf f1), f2⟩
    | some i =>
      rw [hq] at k2
      obtain ⟨rfl, k3⟩ := k2
      have hi := kin_lt hq
      have hi6 : i = 0 ∨ i = 1 ∨ i = 2 ∨ i = 3 ∨ i = 4 ∨ i = 5 := by omega
      rcases hi6 with rfl | rfl | rfl | rfl | rfl | rfl
      · show ∃ g, _ ∧ _ ∧ CR n B s g (if T 19 = 6 then .error (3, tst n B p) else pcall n B T (T 19).toNatClampNeg p)
        by_cases h6 : T 19 = 6
        · rw [if_pos h6]
          obtain ⟨g', f0, f1, f2⟩ := c_fail (L := L) (xs := xs) (d := d + 6) (c := 3) (l := tst n B p) (Or.inr (Or.inr rfl)) k3
          have c6 : ¬ (k.1 s 6 < (6 : Int32)) := by rw [s6, ← e19, h6]; decide
          exact ⟨g', enter _ _ k0 (s_X6_readLine_26_0 (d := d + 8) k0 rfl (v_X6_readCall (d := d + 14) (s_X6_readCall_0_1 (d := d + 7) (xs_lin hs) c6 f0))), F2.trans (XF.sf f1), f2⟩
        · rw [if_neg h6]
          have hc6 : c19 < 6 := by
            rcases Nat.lt_or_ge c19 6 with hh | hh
            · exact hh
            · exact absurd (by rw [e19, show c19 = 6 by omega]; rfl) h6
          have ec : (T 19).toNatClampNeg = c19 := by rw [e19, nI_clamp (by omega)]
          rw [ec]
          obtain ⟨g', f0, f1, f2⟩ := c_call (L := L) (xs := xs) (d := d) (l2 := nI (tst n B p)) R2 ht hs hn k3 hT2 hc6 e19
          exact ⟨g', enter _ _ k0 (s_X6_readLine_26_0 (d := d + 8) k0 rfl f0), F2.trans f1, f2⟩
      · obtain ⟨g', f0, f1, f2⟩ := c_slips (L := L) (xs := xs) (d := d) R2 ht hs hn k3 hT2
        exact ⟨g', enter _ _ k0 (s_X6_readLine_26_1 (d := d + 8) k0 rfl f0), F2.trans f1, f2⟩
      · obtain ⟨g', f0, f1, f2⟩ := c_wish (L := L) (xs := xs) (d := d) R2 ht hs hn k3 hT2
        exact ⟨g', enter _ _ k0 (s_X6_readLine_26_2 (d := d + 8) k0 rfl f0), F2.trans f1, f2⟩
      · obtain ⟨v2, g2, a1, a3, a4, a5⟩ := c_number (L := L) (xs := xs) (d := d + 6) (lo := 1) (hi := 999) R2 ht hn k3 (by decide) (by decide)
        refine ⟨_, enter _ _ k0 (s_X6_readLine_26_3 (d := d + 8) k0 rfl a1 (xs_lin hs)), (F2.trans (XF.sf a3)).trans (SF.si (by omega) (by omega)), ?_⟩
        refine CR.fin (a4.si (by omega)) (fun q hq => ?_)
        have ea' := ev1_ok hq a5
        rw [← ea']
        have oth : ∀ q, q ≠ 1 → q ≠ s → (xm_si g2 s 9 v2).1 q = k.1 q := fun q h1 h2 => by rw [xm_rn h2, a3.2 q h1]
        unfold LR at hT2 ⊢
        rw [si_up, a3.2 s hs1, oth (s + 1) (by omega) (by omega), oth (s + 2) (by omega) (by omega), oth (s + 3) (by omega) (by omega), oth (s + 4) (by omega) (by omega), oth (s + 5) (by omega) (by omega), oth (s + 6) (by omega) (by omega), oth (s + 7) (by omega) (by omega)]
        exact rl_press hT2
      · show ∃ g, _ ∧ _ ∧ CR n B s g (if T 20 = 4 then .error (3, tst n B p) else ppair n B T (T 20).toNatClampNeg p)
        by_cases h6 : T 20 = 4
        · rw [if_pos h6]
          obtain ⟨g', f0, f1, f2⟩ := c_fail (L := L) (xs := xs) (d := d + 6) (c := 3) (l := tst n B p) (Or.inr (Or.inr rfl)) k3
          have c6 : ¬ (k.1 s 10 < (4 : Int32)) := by rw [s10, ← e20, h6]; decide
          exact ⟨g', enter _ _ k0 (s_X6_readLine_26_4 (d := d + 8) k0 rfl (v_X6_readPair (d := d + 14) (s_X6_readPair_0_1 (d := d + 7) (xs_lin hs) c6 f0))), F2.trans (XF.sf f1), f2⟩
        · rw [if_neg h6]
          have hc6 : c20 < 4 := by
            rcases Nat.lt_or_ge c20 4 with hh | hh
            · exact hh
            · exact absurd (by rw [e20, show c20 = 4 by omega]; rfl) h6
          have ec : (T 20).toNatClampNeg = c20 := by rw [e20, nI_clamp (by omega)]
          rw [ec]
          obtain ⟨g', f0, f1, f2⟩ := c_pair (L := L) (xs := xs) (d := d) (l2 := nI (tst n B p)) R2 ht hs hn k3 hT2 hc6 e20
          exact ⟨g', enter _ _ k0 (s_X6_readLine_26_4 (d := d + 8) k0 rfl f0), F2.trans f1, f2⟩
      · show ∃ g, _ ∧ _ ∧ CR n B s g (if T 21 = 6 then .error (3, tst n B p) else ppile n B T (T 21).toNatClampNeg p)
        by_cases h6 : T 21 = 6
        · rw [if_pos h6]
          obtain ⟨g', f0, f1, f2⟩ := c_fail (L := L) (xs := xs) (d := d + 6) (c := 3) (l := tst n B p) (Or.inr (Or.inr rfl)) k3
          have c6 : ¬ (k.1 s 11 < (6 : Int32)) := by rw [s11, ← e21, h6]; decide
          exact ⟨g', enter _ _ k0 (s_X6_readLine_26_5 (d := d + 8) k0 rfl (v_X6_readPile (d := d + 14) (s_X6_readPile_0_1 (d := d + 7) (xs_lin hs) c6 f0))), F2.trans (XF.sf f1), f2⟩
        · rw [if_neg h6]
          have hc6 : c21 < 6 := by
            rcases Nat.lt_or_ge c21 6 with hh | hh
            · exact hh
            · exact absurd (by rw [e21, show c21 = 6 by omega]; rfl) h6
          have ec : (T 21).toNatClampNeg = c21 := by rw [e21, nI_clamp (by omega)]
          rw [ec]
          obtain ⟨g', f0, f1, f2⟩ := c_pile (L := L) (xs := xs) (d := d) (l2 := nI (tst n B p)) R2 ht hs hn k3 hT2 hc6 e21
          exact ⟨g', enter _ _ k0 (s_X6_readLine_26_5 (d := d + 8) k0 rfl f0), F2.trans f1, f2⟩
theorem c_end {h : xm_H} {t s n : Nat} {B : Nat → Nat} {x : Except (Nat × Nat) ((Nat → Int32) × Nat)} (hR : h.2.2 = xm_R0 t) (ht : t = 5 ∨ t = 13) (hs : s = 5 ∨ s = 13) (hn : n ≤ 1000) (hc : CR n B s h x) (h5 : ∀ a, x = .ok a → ∀ k, k < 6 → h.1 (s + 2) k = a.1 (5 + k)) : ∃ g, xm_V (xm_X0 L xs) xm_P (d + 9) 30 [.ref 1, .ref s] h none g ∧ SF s h g ∧ CR n B s g (pend n B x) := by
  have hs1 : s ≠ 1 := by omega
  cases x with
  | ok a =>
    obtain ⟨hc1, hc2⟩ := hc
    obtain ⟨hp, e4, e5, e6, -, -⟩ := hc1.st
    have hk4 : tkd n B a.2 ≤ 4 := tkd_le
    simp only [pend]
    by_cases hk : tkd n B a.2 = 3
    · rw [if_pos hk]
      obtain ⟨g, g0, g1, g2⟩ := c_adv (L := L) (xs := xs) (d := d) hR ht hn hc1
      have V := v_X6_endLine (d := d + 8) (s_X6_endLine_0_0 (d := d + 1) (by rw [e6, hk]; rfl) g0 (xs_lin hs))
      refine ⟨_, V, (XF.sf g1).trans (SF.si (by omega) (by omega)), g2.si (by omega), ?_⟩
      have e0 : g.1 s 0 = a.1 22 := by
        rw [g1.2 s hs1]
        unfold LR rl_lin at hc2
        exact hc2.1
      have oth : ∀ q, q ≠ 1 → q ≠ s → (xm_si g s 0 (g.1 s 0 + 1)).1 q = h.1 q := fun q h1 h2 => by rw [xm_rn h2, g1.2 q h1]
      unfold LR at hc2 ⊢
      rw [oth (s + 1) (by omega) (by omega), oth (s + 2) (by omega) (by omega), oth (s + 3) (by omega) (by omega), oth (s + 4) (by omega) (by omega), oth (s + 5) (by omega) (by omega), oth (s + 6) (by omega) (by omega), oth (s + 7) (by omega) (by omega), si_up, g1.2 s hs1]
      rw [g1.2 s hs1] at e0
      rw [e0]
      exact rl_lend (h5 a rfl) hc2
    · rw [if_neg hk]
      obtain ⟨g, g0, g1, g2⟩ := c_fail (L := L) (xs := xs) (d := d) (c := 1) (l := tst n B a.2) (Or.inl rfl) hc1
      rw [← e4] at g0
      exact ⟨g, v_X6_endLine (d := d + 8) (s_X6_endLine_0_1 (d := d + 1) (by rw [e6]; exact fun e => hk ((nI_eq (b := 3) (by omega) (by omega)).mp e)) g0), XF.sf g1, g2⟩
  | error e =>
    have hc' : CX n B h (.error e) := hc
    have hc0 := hc'
    obtain ⟨-, -, p, hp, e4, e5, e6, -⟩ := hc'
    by_cases hk : h.1 1 6 = 3
    · obtain ⟨g, g0, g1, g2⟩ := c_adv (L := L) (xs := xs) (d := d) hR ht hn hc0
      exact ⟨_, v_X6_endLine (d := d + 8) (s_X6_endLine_0_0 (d := d + 1) hk g0 (xs_lin hs)), (XF.sf g1).trans (SF.si (by omega) (by omega)), g2.si (by omega)⟩
    · obtain ⟨g, g0, g1, g2⟩ := c_fail (L := L) (xs := xs) (d := d) (c := 1) (l := tst n B p) (Or.inl rfl) hc0
      rw [← e4] at g0
      exact ⟨g, v_X6_endLine (d := d + 8) (s_X6_endLine_0_1 (d := d + 1) hk g0), XF.sf g1, g2⟩
theorem R0_2 {t : Nat} : xm_R0 t 0 2 = some (18 - t) := rfl
theorem c_loop {t s n : Nat} {B : Nat → Nat} (ht : t = 5 ∨ t = 13) (hs : s = 18 - t) (hn : n ≤ 1000) : ∀ m i p (T : Nat → Int32) (z : xm_H), n - p < m → i ≤ p → p ≤ n → WI i T → z.2.2 = xm_R0 t → CX n B z (.ok p) → LR s z T → (i = 0 → ∀ k, k < 6 → z.1 (s + 2) k = 5) → ∃ i' g, i' ≤ 1000 ∧ SF s z g ∧ CR n B s g (ploop n B m i T p) ∧ (∀ a, ploop n B m i T p = .ok a → WI i' a.1 ∧ tkd n B a.2 = 0) ∧ (∀ ro ho, xm_E (xm_X0 L xs) xm_P (d + 17) co_X10_linen 8 [some (.ref 0), some (.int (nI i'))] [] g ro ho → xm_E (xm_X0 L xs) xm_P (d + 17) co_X10_linen 8 [some (.ref 0), some (.int (nI i))] [] z ro ho) := by
  have hs' : s = 5 ∨ s = 13 := by omega
  intro m
  induction m with
  | zero => intro i p T z h1; omega
  | succ m ih =>
    intro i p T z hm hip hp hT zR hc hl h5
    have hst := hc.st
    have hk4 : tkd n B p ≤ 4 := tkd_le
    unfold ploop
    by_cases hk : tkd n B p = 0
    · rw [if_pos hk]
      exact ⟨i, z, by omega, SF.refl s z, ⟨hc, hl⟩, fun a ha => by cases ha; exact ⟨hT, hk⟩, fun _ _ K => K⟩
    · rw [if_neg hk]
      have hpn : p < n := by
        have := ten_lt (B := B) hp hk
        have := (ten_le (B := B) hp).2.2
        omega
      have hgo : ¬ (F_X6_goesOn z t = (0 : Int32)) := by
        unfold F_X6_goesOn
        rw [if_pos hst.2.2.2.2.1, if_neg (by rw [hst.2.2.2.1]; exact fun e => hk ((nI_eq (b := 0) (by omega) (by omega)).mp e))]
        decide
      have hr02 : z.2.2 0 2 = some s := by rw [zR, R0_2, hs]
      have step : ∃ g, (∀ ro ho, xm_E (xm_X0 L xs) xm_P (d + 17) co_X10_linen 8 [some (.ref 0), some (.int (nI (i + 1)))] [] g ro ho → xm_E (xm_X0 L xs) xm_P (d + 17) co_X10_linen 8 [some (.ref 0), some (.int (nI i))] [] z ro ho) ∧ SF s z g ∧ CR n B s g (pline n B i T p) := by
        by_cases h0 : i = 0
        · subst h0
          have hz := hT.2.1 rfl
          obtain ⟨g, g0, g1, g2, g3⟩ := c_sheet (L := L) (xs := xs) (d := d + 2) zR ht hs' hn hc hl ⟨hz 22 (by omega), hz 19 (by omega), hz 20 (by omega), hz 21 (by omega), hz 13 (by omega)⟩ (h5 rfl)
          have gR : g.2.2 = xm_R0 t := by rw [g1.1]; exact zR
          obtain ⟨k, k0, k1, k2⟩ := c_end (L := L) (xs := xs) (d := d + 8) gR ht hs' hn g2 (fun a ha k hk => by
            rw [g3 k hk]
            exact ((first_ok (T' := a.1) (q := a.2) hz hp ha).2.2.2.2 k hk).symm)
          refine ⟨k, fun ro ho K => ?_, g1.trans k1, ?_⟩
          · rw [← nI_1] at K
            exact s_X10_linen_8_4 (d := d + 10) zR ht (by decide) hgo rfl hr02 g0 gR (by rw [gR, R0_2, hs]) k0 K
          · unfold pline
            rw [if_pos rfl]
            exact k2
        · obtain ⟨g, g0, g1, g2⟩ := c_next (L := L) (xs := xs) (d := d + 1) zR ht hs' hn hc hl (hT.2.2 h0)
          have gR : g.2.2 = xm_R0 t := by rw [g1.1]; exact zR
          have h5' : ∀ a, pnext n B T p = .ok a → ∀ k, k < 6 → g.1 (s + 2) k = a.1 (5 + k) := by
            intro a ha k hk
            rw [ha] at g2
            have hl2 := g2.2
            have e22 : a.1 22 = nI i := by
              rw [(next_ok (T' := a.1) (q := a.2) (hT.2.2 h0) hp ha).2.1]
              exact hT.1
            unfold LR rl_lin at hl2
            exact hl2.2.2.2.2.2.2.2.2.2.2.2.2.2.2.1 (by rw [e22]; exact fun e => h0 ((nI_eq (b := 0) (by omega) (by omega)).mp e)) k hk
          obtain ⟨k, k0, k1, k2⟩ := c_end (L := L) (xs := xs) (d := d + 8) gR ht hs' hn g2 h5'
          refine ⟨k, fun ro ho K => ?_, g1.trans k1, ?_⟩
          · rw [← nI_1] at K
            exact s_X10_linen_8_5 (d := d + 10) zR ht (nI_ge (b := 1000) (by omega) (by decide)) hgo (fun e => h0 ((nI_eq (b := 0) (by omega) (by omega)).mp e)) hr02 g0 gR (by rw [gR, R0_2, hs]) k0 K
          · unfold pline
            rw [if_neg h0]
            exact k2
      obtain ⟨g, g0, g1, g2⟩ := step
      have gR : g.2.2 = xm_R0 t := by rw [g1.1]; exact zR
      cases hx : pline n B i T p with
      | error e =>
        rw [hx] at g2
        exact ⟨i + 1, g, by omega, g1, g2, fun a ha => (by cases ha), g0⟩
      | ok a =>
        rw [hx] at g2
        obtain ⟨u1, u2, u3⟩ := line_ok (T' := a.1) (q := a.2) hT (by omega) hp hx
        obtain ⟨i', g', b1, b2, b3, b4, b5⟩ := ih (i + 1) a.2 a.1 g (by omega) (by omega) u3 u1 gR g2.1 g2.2 (fun e => absurd e (by omega))
        exact ⟨i', g', b1, g1.trans b2, b3, b4, fun ro ho K => g0 ro ho (b5 ro ho K)⟩
end OPS
