/-! The reference reads line by line. -/
section OPS
variable {L : Nat} {xs : Nat → Int32} {d : Nat}
theorem m_tf {h : xm_H} {t n w p : Nat} {B : Nat → Nat} {S : List Nat} (hR : h.2.2 = xm_R0 t) (ht : t = 5 ∨ t = 13) (hn : n ≤ 1000) (hc : MX n B h (.ok p)) (hs : SX w S) (hf : tw n B p S = false) : xm_V (xm_X0 L xs) xm_P (d + 9) 203 [.ref 82, .ref w] h (some (.int 0)) h := by
  rcases m_try (L := L) (xs := xs) (d := d) hR ht hn hc hs with ⟨g, -, -, -, q, hq, hw⟩ | ⟨V, -⟩
  · cases hq
    rw [hf] at hw
    cases hw
  · exact V
theorem m_tt {h : xm_H} {t n w p : Nat} {B : Nat → Nat} {S : List Nat} (hR : h.2.2 = xm_R0 t) (ht : t = 5 ∨ t = 13) (hn : n ≤ 1000) (hc : MX n B h (.ok p)) (hs : SX w S) (hf : tw n B p S = true) : ∃ g, xm_V (xm_X0 L xs) xm_P (d + 9) 203 [.ref 82, .ref w] h (some (.int 1)) g ∧ MF h g ∧ MX n B g (.ok (ten n B p)) := by
  rcases m_try (L := L) (xs := xs) (d := d) hR ht hn hc hs with ⟨g, V, g1, g2, -⟩ | ⟨-, f⟩
  · exact ⟨g, V, g1, g2⟩
  · have := f p rfl
    rw [hf] at this
    cases this
theorem m_next {h : xm_H} {t n p : Nat} {B : Nat → Nat} {T : Nat → Int32} (hR : h.2.2 = xm_R0 t) (ht : t = 5 ∨ t = 13) (hn : n ≤ 1000) (hc : MX n B h (.ok p)) (hT : h.1 88 = T) (hW : WV T) : ∃ g, xm_V (xm_X0 L xs) xm_P (d + 13) 208 [.ref 82] h none g ∧ NF h g ∧ MR n B g (pnext n B T p) := by
  have n0 : ¬ (1 : Int32) = 0 := by decide
  have hg : ¬ F_X11_good h t = 0 := by rw [show F_X11_good h t = 1 from hc.good]; exact n0
  obtain ⟨vm, Vm, em⟩ := m_moving (L := L) (xs := xs) (d := d + 1) hR ht hn hc
  obtain ⟨-, -, -, -, -, -, -, -, -, -, ⟨c19, h19, e19, -⟩, ⟨c20, h20, e20, -⟩, ⟨c21, h21, e21, -⟩, -⟩ := hW
  have i19 : h.1 88 19 = T 19 := by rw [hT]
  have i20 : h.1 88 20 = T 20 := by rw [hT]
  have i21 : h.1 88 21 = T 21 := by rw [hT]
  unfold pnext
  cases hm : ptk n B (.ok p) sMov with
  | some i =>
    have hi := (mov_b hm).1
    rw [hm] at em
    have pre : ∀ g, xm_E (xm_X0 L xs) xm_P (d + 12) co_X11_readNext 70 [some (.ref 82), some (.int (1 : Int32)), none, none] [] h none g → xm_V (xm_X0 L xs) xm_P (d + 13) 208 [.ref 82] h none g := fun g K => v_X11_readNext (d := d + 12) (m_pre hR ht hn hc (fun hh => by rw [hm] at hh; cases hh.1) (fun hh => by rw [hm] at hh; cases hh) (fun hh => by rw [hm] at hh; cases hh) (fun hh => by rw [hm] at hh; cases hh) K)
    have cm : ¬ (vm = (-1 : Int32)) := by rw [em]; exact fun e => ((nj_n1 (a := i) (k := 1) (by omega) (by decide) (by decide)).mp e).elim
    obtain ⟨g2, a0, a1, a2⟩ := m_adv (L := L) (xs := xs) (d := d + 4) hR ht hn hc
    obtain ⟨v3, g3, b1, b3, b4, b5⟩ := m_told (L := L) (xs := xs) (d := d + 1) (lo := 1) (hi := 99) (a1.R hR) ht hn a2 sx_1066 (by decide) (by decide)
    have R3 := b3.R (a1.R hR)
    have F := a1.trans b3
    have hX : MX n B g3 (er2 (pwn n B wTakes 1 99 (.ok (ten n B p)))) := b4
    cases hx : er2 (pwn n B wTakes 1 99 (.ok (ten n B p))) with
    | error e =>
      rw [hx] at hX
      refine ⟨g3, pre _ (s_X11_readNext_70_7 (d := d + 5) hR ht hg Vm cm a0 b1 R3 hX.bad), F.nf, ?_⟩
      show MR n B g3 (ptakes n B T i p)
      unfold ptakes
      simp only
      rw [hx]
      exact hX
    | ok q =>
      have hX0 := hX
      rw [hx] at hX
      have ea' := ev1_ok hx b5
      have ei : (5 : Int32) + vm = nI (5 + i) := by rw [em]; exact nI_add 5 i
      have E := s_X11_readNext_70_8 (L := L) (xs := xs) (d := d + 5) (l1 := (1 : Int32)) hR ht hg Vm cm a0 b1 R3 (by rw [show F_X11_good g3 t = 1 from hX.good]; exact n0) (by rw [ei]; exact nI_in (by omega) (by decide))
      rw [ei, nI_clamp (by omega)] at E
      refine ⟨_, pre _ E, F.nf.trans NF.si, ?_⟩
      refine MR.fin (hX0.si (by omega)) (fun q' hq => ?_)
      rw [si_up, F.2.1 88 (by decide), hT, ea']
  | none =>
    rw [hm] at em
    simp only at em
    cases hq : ptk n B (.ok p) sKin with
    | none =>
      have hb := kin_n hq
      have V := fun i hi => m_is (L := L) (xs := xs) (d := d + 4) hR ht hn hc (sx_kin i hi)
      have W := fun k hk => (by have q := V k hk; rw [show rtw n B (.ok p) (wKin.getD k []) = false from hb k hk] at q; exact q : xm_V (xm_X0 L xs) xm_P (d + 12) 204 [.ref 82, .ref (1054 + 2 * k)] h (some (.int (b2i false))) h)
      obtain ⟨g, g0, g1, g2⟩ := m_errs (L := L) (xs := xs) (d := d + 4) (c := 1) hR ht (Or.inl rfl) hc
      have gR := g1.R hR
      have U := fun i hi => m_is (L := L) (xs := xs) (d := d + 4) gR ht hn g2 (sx_kin i hi)
      refine ⟨g, v_X11_readNext (d := d + 12) (s_X11_readNext_0_0 (d := d + 5) Vm em (W 0 (by decide)) rfl (W 1 (by decide)) rfl (W 2 (by decide)) rfl (W 3 (by decide)) rfl (W 4 (by decide)) rfl (W 5 (by decide)) rfl (s_X11_readNext_31_0 (d := d + 5) rfl g0 (s_X11_readNext_37_0 (d := d + 5) (U 0 (by decide)) rfl (s_X11_readNext_47_0 (d := d + 5) (U 4 (by decide)) rfl (U 5 (by decide)) rfl (s_X11_readNext_70_0 (d := d + 5) gR ht g2.bad))))), g1.nf, g2⟩
    | some i =>
      obtain ⟨hi, hb⟩ := kin_b hq
      have V := fun i hi => m_is (L := L) (xs := xs) (d := d + 4) hR ht hn hc (sx_kin i hi)
      have W := fun k hk => (by have q := V k hk; rw [show rtw n B (.ok p) (wKin.getD k []) = decide (k = i) from hb k hk] at q; exact q : xm_V (xm_X0 L xs) xm_P (d + 12) 204 [.ref 82, .ref (1054 + 2 * k)] h (some (.int (b2i (decide (k = i))))) h)
      have TF := fun k (hk : k < 6) (hki : k ≠ i) => m_tf (L := L) (xs := xs) (d := d + 3) hR ht hn hc (sx_kin k hk) (by rw [hb k hk, decide_eq_false hki])
      obtain ⟨g1, t0, t1, t2⟩ := m_tt (L := L) (xs := xs) (d := d + 3) hR ht hn hc (sx_kin i hi) (by rw [hb i hi]; simp)
      have R1 := t1.R hR
      have hT1 : g1.1 88 = T := by rw [t1.2.1 88 (by decide), hT]
      have pre : (i = 0 → ¬ T 19 = 6) → (i = 4 → ¬ T 20 = 4) → (i = 5 → ¬ T 21 = 6) → ∀ g, xm_E (xm_X0 L xs) xm_P (d + 12) co_X11_readNext 70 [some (.ref 82), some (.int (1 : Int32)), none, none] [] h none g → xm_V (xm_X0 L xs) xm_P (d + 13) 208 [.ref 82] h none g := fun x0 x4 x5 g K => v_X11_readNext (d := d + 12) (m_pre hR ht hn hc (fun hh => by rw [hq] at hh; cases hh.2) (fun _ hh => by rw [hq] at hh; cases hh; rw [i19]; exact x0 rfl) (fun _ hh => by rw [hq] at hh; cases hh; rw [i20]; exact x4 rfl) (fun _ hh => by rw [hq] at hh; cases hh; rw [i21]; exact x5 rfl) K)
      have hi6 : i = 0 ∨ i = 1 ∨ i = 2 ∨ i = 3 ∨ i = 4 ∨ i = 5 := by omega
      rcases hi6 with rfl | rfl | rfl | rfl | rfl | rfl
      · show ∃ g, _ ∧ _ ∧ MR n B g (if T 19 = 6 then .error (3, tst n B p) else pcall n B T (T 19).toNatClampNeg p)
        by_cases h6 : T 19 = 6
        · rw [if_pos h6]
          obtain ⟨g, g0, g1, g2⟩ := m_errs (L := L) (xs := xs) (d := d + 4) (c := 3) hR ht (Or.inr (Or.inr rfl)) hc
          exact ⟨g, v_X11_readNext (d := d + 12) (s_X11_readNext_0_6 (d := d + 5) Vm em (W 0 (by decide)) (by decide) (s_X11_readNext_31_1 (d := d + 5) n0 (s_X11_readNext_37_1 (d := d + 5) ht (W 0 (by decide)) (by decide) hR (by rw [i19]; exact h6) g0 (s_X11_readNext_70_0 (d := d + 5) (g1.R hR) ht g2.bad)))), g1.nf, g2⟩
        · rw [if_neg h6]
          have hc6 : c19 < 6 := by
            rcases Nat.lt_or_ge c19 6 with hh | hh
            · exact hh
            · exact absurd (by rw [e19, show c19 = 6 by omega]; rfl) h6
          have ec : (T 19).toNatClampNeg = c19 := by rw [e19, nI_clamp (by omega)]
          rw [ec]
          obtain ⟨g, g0, k1, k2⟩ := m_call (L := L) (xs := xs) (d := d) R1 ht hn t2 hT1 hc6 e19
          exact ⟨g, pre (fun _ => h6) (fun e => absurd e (by decide)) (fun e => absurd e (by decide)) _ (s_X11_readNext_70_6 (d := d + 5) hR ht hg Vm em t0 n0 g0), t1.nf.trans k1, k2⟩
      · obtain ⟨v5, g5, a1, a3, a4, a5⟩ := m_told (L := L) (xs := xs) (d := d + 1) (lo := 0) (hi := 50) R1 ht hn t2 sx_1068 (by decide) (by decide)
        have R5 := a3.R R1
        obtain ⟨v8, g8, b1, b3, b4, b5⟩ := m_told (L := L) (xs := xs) (d := d + 1) (h := xm_si g5 88 11 v5) (lo := 0) (hi := 50) R5 ht hn (a4.si (by omega)) sx_1078 (by decide) (by decide)
        refine ⟨_, pre (fun e => absurd e (by decide)) (fun e => absurd e (by decide)) (fun e => absurd e (by decide)) _ (s_X11_readNext_70_5 (d := d + 5) hR ht hg Vm em (TF 0 (by decide) (by decide)) rfl t0 n0 R1 a1 R5 b1), (((t1.nf.trans a3.nf).trans NF.si).trans b3.nf).trans NF.si, ?_⟩
        refine MR.fin (b4.si (by omega)) (fun q hq => ?_)
        have eb' := ev1_ok hq b5
        obtain ⟨p9, q9, -⟩ := ebn_ok (er2_ok hq)
        obtain ⟨p8, q8, -⟩ := ebn_ok q9
        have ea' := ev1_ok q8 a5
        rw [← ea', ← eb', si_up, b3.2.1 88 (by decide), si_up, a3.2.1 88 (by decide), hT1]
      · obtain ⟨g, g0, k1, k2⟩ := m_wish (L := L) (xs := xs) (d := d) R1 ht hn t2 hT1
        exact ⟨g, pre (fun e => absurd e (by decide)) (fun e => absurd e (by decide)) (fun e => absurd e (by decide)) _ (s_X11_readNext_70_4 (d := d + 5) hR ht hg Vm em (TF 0 (by decide) (by decide)) rfl (TF 1 (by decide) (by decide)) rfl t0 n0 g0), t1.nf.trans k1, k2⟩
      · obtain ⟨v7, g7, a1, a3, a4, a5⟩ := m_number (L := L) (xs := xs) (d := d + 3) (lo := 1) (hi := 999) R1 ht hn t2 (by decide) (by decide)
        refine ⟨_, pre (fun e => absurd e (by decide)) (fun e => absurd e (by decide)) (fun e => absurd e (by decide)) _ (s_X11_readNext_70_3 (d := d + 5) hR ht hg Vm em (TF 0 (by decide) (by decide)) rfl (TF 1 (by decide) (by decide)) rfl (TF 2 (by decide) (by decide)) rfl t0 n0 R1 a1), (t1.nf.trans a3.nf).trans NF.si, ?_⟩
        refine MR.fin (a4.si (by omega)) (fun q hq => ?_)
        have ea' := ev1_ok hq a5
        rw [← ea', si_up, a3.2.1 88 (by decide), hT1]
      · show ∃ g, _ ∧ _ ∧ MR n B g (if T 20 = 4 then .error (3, tst n B p) else ppair n B T (T 20).toNatClampNeg p)
        by_cases h6 : T 20 = 4
        · rw [if_pos h6]
          obtain ⟨g, g0, g1, g2⟩ := m_errs (L := L) (xs := xs) (d := d + 4) (c := 3) hR ht (Or.inr (Or.inr rfl)) hc
          exact ⟨g, v_X11_readNext (d := d + 12) (s_X11_readNext_0_2 (d := d + 5) Vm em (W 0 (by decide)) (by decide) (W 1 (by decide)) (by decide) (W 2 (by decide)) (by decide) (W 3 (by decide)) (by decide) (W 4 (by decide)) (by decide) (s_X11_readNext_31_1 (d := d + 5) n0 (s_X11_readNext_37_0 (d := d + 5) (W 0 (by decide)) (by decide) (s_X11_readNext_47_3 (d := d + 5) ht (W 4 (by decide)) (by decide) hR (by rw [i20]; exact h6) g0 (s_X11_readNext_70_0 (d := d + 5) (g1.R hR) ht g2.bad))))), g1.nf, g2⟩
        · rw [if_neg h6]
          have hc6 : c20 < 4 := by
            rcases Nat.lt_or_ge c20 4 with hh | hh
            · exact hh
            · exact absurd (by rw [e20, show c20 = 4 by omega]; rfl) h6
          have ec : (T 20).toNatClampNeg = c20 := by rw [e20, nI_clamp (by omega)]
          rw [ec]
          have x20 : g1.1 88 20 = nI c20 := by rw [hT1]; exact e20
          have i1 : (36 : Int32) + (2 : Int32) * nI c20 = nI (36 + 2 * c20) := by rw [show (2 : Int32) = nI 2 from rfl, nm_mul]; exact nI_add 36 _
          obtain ⟨v9, g9, a1, a3, a4, a5⟩ := m_number (L := L) (xs := xs) (d := d + 3) (lo := 1) (hi := 99) R1 ht hn t2 (by decide) (by decide)
          have R9 := a3.R R1
          have x9 : g9.1 88 20 = nI c20 := by rw [a3.2.1 88 (by decide)]; exact x20
          obtain ⟨v12, g12, b1, b3, b4, b5⟩ := m_told (L := L) (xs := xs) (d := d + 1) (h := xm_si g9 88 (36 + 2 * c20) v9) (lo := 0) (hi := 999) R9 ht hn (a4.si (by omega)) sx_1094 (by decide) (by decide)
          have R12 := b3.R (h := xm_si g9 88 (36 + 2 * c20) v9) R9
          have x12 : g12.1 88 20 = nI c20 := by rw [b3.2.1 88 (by decide), xm_rk (by omega)]; exact x9
          have E := s_X11_readNext_70_2 (L := L) (xs := xs) (d := d + 5) (l1 := (1 : Int32)) hR ht hg Vm em (TF 0 (by decide) (by decide)) rfl (TF 1 (by decide) (by decide)) rfl (TF 2 (by decide) (by decide)) rfl (TF 3 (by decide) (by decide)) rfl t0 n0 R1 a1 (by rw [x20, i1]; exact nI_in (by omega) (by decide)) R9 (by rw [x20, i1, nI_clamp (by omega)]; exact b1) (by rw [x20, i1, nI_clamp (by omega), xm_rk (by omega), x9, i1, nI_1]; exact nI_in (by omega) (by decide)) R12
          rw [x20, i1, nI_clamp (by omega), xm_rk (show 20 ≠ 36 + 2 * c20 by omega), x9, i1, nI_1, nI_clamp (by omega), xm_rk (show 20 ≠ 36 + 2 * c20 + 1 by omega), x12, nI_1] at E
          refine ⟨_, pre (fun e => absurd e (by decide)) (fun _ => h6) (fun e => absurd e (by decide)) _ E, ((((t1.nf.trans a3.nf).trans NF.si).trans b3.nf).trans NF.si).trans NF.si, ?_⟩
          refine MR.fin ((b4.si (by omega)).si (by omega)) (fun q hq => ?_)
          have eb' := ev1_ok hq b5
          obtain ⟨p9, q9, -⟩ := ebn_ok (er2_ok hq)
          obtain ⟨p8, q8, -⟩ := ebn_ok q9
          have ea' := ev1_ok q8 a5
          rw [← ea', ← eb', si_up, si_up, b3.2.1 88 (by decide), si_up, a3.2.1 88 (by decide), hT1, show 36 + 2 * c20 + 1 = 37 + 2 * c20 by omega]
      · show ∃ g, _ ∧ _ ∧ MR n B g (if T 21 = 6 then .error (3, tst n B p) else ppile n B T (T 21).toNatClampNeg p)
        by_cases h6 : T 21 = 6
        · rw [if_pos h6]
          obtain ⟨g, g0, g1, g2⟩ := m_errs (L := L) (xs := xs) (d := d + 4) (c := 3) hR ht (Or.inr (Or.inr rfl)) hc
          exact ⟨g, v_X11_readNext (d := d + 12) (s_X11_readNext_0_1 (d := d + 5) Vm em (W 0 (by decide)) (by decide) (W 1 (by decide)) (by decide) (W 2 (by decide)) (by decide) (W 3 (by decide)) (by decide) (W 4 (by decide)) (by decide) (W 5 (by decide)) (by decide) (s_X11_readNext_31_1 (d := d + 5) n0 (s_X11_readNext_37_0 (d := d + 5) (W 0 (by decide)) (by decide) (s_X11_readNext_47_1 (d := d + 5) ht (W 4 (by decide)) (by decide) (W 5 (by decide)) (by decide) hR (by rw [i21]; exact h6) g0 (s_X11_readNext_70_0 (d := d + 5) (g1.R hR) ht g2.bad))))), g1.nf, g2⟩
        · rw [if_neg h6]
          have hc6 : c21 < 6 := by
            rcases Nat.lt_or_ge c21 6 with hh | hh
            · exact hh
            · exact absurd (by rw [e21, show c21 = 6 by omega]; rfl) h6
          have ec : (T 21).toNatClampNeg = c21 := by rw [e21, nI_clamp (by omega)]
          rw [ec]
          obtain ⟨g7, f0, f1, f2⟩ := m_adv (L := L) (xs := xs) (d := d + 4) hR ht hn hc
          have R7 := f1.R hR
          have x7 : g7.1 88 21 = nI c21 := by rw [f1.2.1 88 (by decide), i21]; exact e21
          have i1 : (44 : Int32) + nI c21 = nI (44 + c21) := nI_add 44 _
          obtain ⟨v10, g10, a1, a3, a4, a5⟩ := m_number (L := L) (xs := xs) (d := d + 3) (lo := 1) (hi := 60) R7 ht hn f2 (by decide) (by decide)
          have x10 : g10.1 88 21 = nI c21 := by rw [a3.2.1 88 (by decide)]; exact x7
          have E := s_X11_readNext_70_1 (L := L) (xs := xs) (d := d + 5) (l1 := (1 : Int32)) hR ht hg Vm em (TF 0 (by decide) (by decide)) rfl (TF 1 (by decide) (by decide)) rfl (TF 2 (by decide) (by decide)) rfl (TF 3 (by decide) (by decide)) rfl (TF 4 (by decide) (by decide)) rfl f0 R7 a1 (by rw [x7, i1]; exact nI_in (by omega) (by decide)) (a3.R R7)
          rw [x7, i1, nI_clamp (by omega), xm_rk (show 21 ≠ 44 + c21 by omega), x10, nI_1] at E
          refine ⟨_, pre (fun e => absurd e (by decide)) (fun e => absurd e (by decide)) (fun _ => h6) _ E, ((f1.nf.trans a3.nf).trans NF.si).trans NF.si, ?_⟩
          refine MR.fin ((a4.si (by omega)).si (by omega)) (fun q hq => ?_)
          have ea' := ev1_ok hq a5
          rw [← ea', si_up, si_up, a3.2.1 88 (by decide), f1.2.1 88 (by decide), hT]
theorem m_line {h : xm_H} {t n i p : Nat} {B : Nat → Nat} {T : Nat → Int32} (hR : h.2.2 = xm_R0 t) (ht : t = 5 ∨ t = 13) (hn : n ≤ 1000) (hi : i ≤ 1000) (hp : p ≤ n) (hc : MX n B h (.ok p)) (hT : h.1 88 = T) (hW : WI i T) : ∃ g, xm_V (xm_X0 L xs) xm_P (d + 14) 200 [.ref 82] h none g ∧ NF h g ∧ MR n B g (pline n B i T p) := by
  have n0 : ¬ (1 : Int32) = 0 := by decide
  have h22 : h.1 88 22 = nI i := by rw [hT]; exact hW.1
  have key : ∃ g2, NF h g2 ∧ MR n B g2 (if i = 0 then pfirst n B T p else pnext n B T p) ∧ ((i = 0 ∧ xm_V (xm_X0 L xs) xm_P (d + 13) 201 [.ref 82] h none g2) ∨ (¬ i = 0 ∧ xm_V (xm_X0 L xs) xm_P (d + 13) 208 [.ref 82] h none g2)) := by
    by_cases h0 : i = 0
    · obtain ⟨g, g0, g1, g2⟩ := m_first (L := L) (xs := xs) (d := d + 1) hR ht hn hc hT
      exact ⟨g, g1, by rw [if_pos h0]; exact g2, Or.inl ⟨h0, g0⟩⟩
    · obtain ⟨g, g0, g1, g2⟩ := m_next (L := L) (xs := xs) (d := d) hR ht hn hc hT (hW.2.2 h0)
      exact ⟨g, g1, by rw [if_neg h0]; exact g2, Or.inr ⟨h0, g0⟩⟩
  obtain ⟨g2, g1, gx, gv⟩ := key
  have R2 : g2.2.2 = xm_R0 t := by rw [g1.1]; exact hR
  unfold pline
  cases hx : (if i = 0 then pfirst n B T p else pnext n B T p) with
  | error e =>
    rw [hx] at gx
    have hX : MX n B g2 (.error e) := gx
    rcases gv with ⟨h0, V⟩ | ⟨h0, V⟩
    · exact ⟨_, v_X11_readLine (d := d + 13) (s_X11_readLine_0_0 (d := d + 6) hR ht (by rw [h22, h0]; rfl) V R2 hX.bad), g1.trans NF.si, hX.si (by omega)⟩
    · exact ⟨_, v_X11_readLine (d := d + 13) (s_X11_readLine_0_6 (d := d + 6) hR ht (by rw [h22]; exact fun e => h0 ((nI_eq (b := 0) (by omega) (by omega)).mp e)) V R2 hX.bad), g1.trans NF.si, hX.si (by omega)⟩
  | ok a =>
    rw [hx] at gx
    obtain ⟨hX, e88⟩ := gx
    have hk4 : tkd n B a.2 ≤ 4 := tkd_le
    have hg : ¬ F_X11_good g2 t = 0 := by rw [show F_X11_good g2 t = 1 from hX.good]; exact n0
    have e10 := hX.st.2.2.2.1
    simp only [pend]
    by_cases hk : tkd n B a.2 = 3
    · rw [if_pos hk]
      obtain ⟨g5, f0, f1, f2⟩ := m_adv (L := L) (xs := xs) (d := d + 5) R2 ht hn hX
      have R5 := f1.R R2
      have c3 : g2.1 82 10 = (3 : Int32) := by rw [e10, hk]; rfl
      have e5 : g5.1 88 = a.1 := by rw [f1.2.1 88 (by decide)]; exact e88
      have fin : MR n B (xm_si g5 88 22 (g5.1 88 22 + 1)) (.ok (up a.1 22 (a.1 22 + 1), ten n B a.2)) := ⟨f2.si (by omega), by rw [si_up, e5]⟩
      rcases gv with ⟨h0, V⟩ | ⟨h0, V⟩
      · exact ⟨_, v_X11_readLine (d := d + 13) (s_X11_readLine_0_3 (d := d + 6) hR ht (by rw [h22, h0]; rfl) V R2 hg c3 f0 R5), (g1.trans f1.nf).trans NF.si, fin⟩
      · exact ⟨_, v_X11_readLine (d := d + 13) (s_X11_readLine_0_9 (d := d + 6) hR ht (by rw [h22]; exact fun e => h0 ((nI_eq (b := 0) (by omega) (by omega)).mp e)) V R2 hg c3 f0 R5), (g1.trans f1.nf).trans NF.si, fin⟩
    · rw [if_neg hk]
      obtain ⟨g4, f0, f1, f2⟩ := m_errs (L := L) (xs := xs) (d := d + 5) (c := 1) R2 ht (Or.inl rfl) hX
      have R4 := f1.R R2
      have c3 : ¬ (g2.1 82 10 = (3 : Int32)) := by rw [e10]; exact fun e => hk ((nI_eq (b := 3) (by omega) (by omega)).mp e)
      rcases gv with ⟨h0, V⟩ | ⟨h0, V⟩
      · exact ⟨_, v_X11_readLine (d := d + 13) (s_X11_readLine_0_4 (d := d + 6) hR ht (by rw [h22, h0]; rfl) V R2 hg c3 f0 R4 f2.bad), (g1.trans f1.nf).trans NF.si, f2.si (by omega)⟩
      · exact ⟨_, v_X11_readLine (d := d + 13) (s_X11_readLine_0_10 (d := d + 6) hR ht (by rw [h22]; exact fun e => h0 ((nI_eq (b := 0) (by omega) (by omega)).mp e)) V R2 hg c3 f0 R4 f2.bad), (g1.trans f1.nf).trans NF.si, f2.si (by omega)⟩
theorem m_loop {t n : Nat} {B : Nat → Nat} {l1 : Int32} (ht : t = 5 ∨ t = 13) (hn : n ≤ 1000) : ∀ m i p (T : Nat → Int32) (z : xm_H), n - p < m → i ≤ p → p ≤ n → WI i T → z.2.2 = xm_R0 t → MX n B z (.ok p) → z.1 88 = T → ∃ g, NF z g ∧ MR n B g (ploop n B m i T p) ∧ (∀ a, ploop n B m i T p = .ok a → tkd n B a.2 = 0) ∧ (∀ ro ho, xm_E (xm_X0 L xs) xm_P (d + 14) co_X11_linen 30 [some (.ref 82), some (.int l1)] [] g ro ho → xm_E (xm_X0 L xs) xm_P (d + 14) co_X11_linen 30 [some (.ref 82), some (.int l1)] [] z ro ho) := by
  have n0 : ¬ (1 : Int32) = 0 := by decide
  intro m
  induction m with
  | zero => intro i p T z h1; omega
  | succ m ih =>
    intro i p T z hm hip hp hT zR hc hl
    have hk4 : tkd n B p ≤ 4 := tkd_le
    unfold ploop
    by_cases hk : tkd n B p = 0
    · rw [if_pos hk]
      exact ⟨z, NF.refl z, ⟨hc, hl⟩, fun a ha => (by cases ha; exact hk), fun _ _ K => K⟩
    · rw [if_neg hk]
      have hpn : p < n := by
        have := ten_lt (B := B) hp hk
        have := (ten_le (B := B) hp).2.2
        omega
      obtain ⟨g, g0, g1, g2⟩ := m_line (L := L) (xs := xs) (d := d) zR ht hn (by omega) hp hc hl hT
      have gR : g.2.2 = xm_R0 t := by rw [g1.1]; exact zR
      have go : ∀ ro ho, xm_E (xm_X0 L xs) xm_P (d + 14) co_X11_linen 30 [some (.ref 82), some (.int l1)] [] g ro ho → xm_E (xm_X0 L xs) xm_P (d + 14) co_X11_linen 30 [some (.ref 82), some (.int l1)] [] z ro ho := fun ro ho K => s_X11_linen_30_4 (d := d + 7) zR ht (by rw [show F_X11_good z t = 1 from hc.good]; exact n0) (by rw [hc.st.2.2.2.1]; exact fun e => hk ((nI_eq (b := 0) (by omega) (by omega)).mp e)) g0 K
      cases hx : pline n B i T p with
      | error e =>
        rw [hx] at g2
        exact ⟨g, g1, g2, fun a ha => (by cases ha), go⟩
      | ok a =>
        rw [hx] at g2
        obtain ⟨u1, u2, u3⟩ := line_ok (T' := a.1) (q := a.2) hT (by omega) hp hx
        obtain ⟨g', b2, b3, b4, b5⟩ := ih (i + 1) a.2 a.1 g (by omega) (by omega) u3 u1 gR g2.1 g2.2
        exact ⟨g', g1.trans b2, b3, b4, fun ro ho K => go ro ho (b5 ro ho K)⟩
end OPS
