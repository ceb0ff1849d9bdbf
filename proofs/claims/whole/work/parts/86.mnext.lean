/-! The reference reads a line. -/
section OPS
variable {L : Nat} {xs : Nat → Int32} {d : Nat}
def NF (h g : xm_H) : Prop := g.2 = h.2 ∧ (∀ q, q ≠ 82 → q ≠ 88 → g.1 q = h.1 q) ∧ g.1 82 5 = h.1 82 5
theorem NF.refl (h : xm_H) : NF h h := ⟨rfl, fun _ _ _ => rfl, rfl⟩
theorem NF.trans {h g k : xm_H} (a : NF h g) (b : NF g k) : NF h k := ⟨b.1.trans a.1, fun q h1 h2 => (b.2.1 q h1 h2).trans (a.2.1 q h1 h2), b.2.2.trans a.2.2⟩
theorem MF.nf {h g : xm_H} (a : MF h g) : NF h g := ⟨a.1, fun q h1 _ => a.2.1 q h1, a.2.2⟩
theorem NF.si {h : xm_H} {k : Nat} {v : Int32} : NF h (xm_si h 88 k v) := ⟨rfl, fun _ _ h2 => xm_rn h2, by rw [xm_rn (by decide)]⟩
def MR (n : Nat) (B : Nat → Nat) (g : xm_H) (x : Except (Nat × Nat) ((Nat → Int32) × Nat)) : Prop := match x with
  | .ok a => MX n B g (.ok a.2) ∧ g.1 88 = a.1
  | .error e => MX n B g (.error e)
theorem MR.fin {n : Nat} {B : Nat → Nat} {g : xm_H} {T : Nat → Int32} {r : Except (Nat × Nat) Nat} (hc : MX n B g r) (hl : ∀ q, r = .ok q → g.1 88 = T) : MR n B g (fnl T r) := by
  cases r with
  | ok q => exact ⟨hc, hl q rfl⟩
  | error e => exact hc
theorem m_fill {t : Nat} (ht : t = 5 ∨ t = 13) : ∀ m i (z : xm_H), m + i = 6 → z.2.2 = xm_R0 t → ∃ g, xm_E (xm_X0 L xs) xm_P (d + 7) co_X11_readFirst 50 [some (.ref 82), some (.int (nI i))] [] z none g ∧ g.2 = z.2 ∧ (∀ q, q ≠ 88 → g.1 q = z.1 q) ∧ ∀ j, g.1 88 j = if 5 + i ≤ j ∧ j < 11 then 5 else z.1 88 j := by
  intro m
  induction m with
  | zero =>
    intro i z hi zR
    have : i = 6 := by omega
    subst this
    exact ⟨z, s_X11_readFirst_50_0 (d := d) (by decide), rfl, fun _ _ => rfl, fun j => by rw [if_neg (by omega)]⟩
  | succ m ih =>
    intro i z hi zR
    have e5 : (5 : Int32) + nI i = nI (5 + i) := nI_add 5 i
    obtain ⟨g, g0, g1, g2, g3⟩ := ih (i + 1) (xm_si z 88 (5 + i) 5) (by omega) zR
    refine ⟨g, ?_, g1, fun q hq => by rw [g2 q hq, xm_rn hq], fun j => ?_⟩
    · refine s_X11_readFirst_50_1 (d := d) zR ht (nI_ge (b := 6) (by omega) (by decide)) (by rw [e5]; exact nI_in (by omega) (by decide)) ?_
      rw [e5, nI_clamp (by omega), nI_1]
      exact g0
    · rw [g3 j]
      by_cases h1 : 5 + (i + 1) ≤ j ∧ j < 11
      · rw [if_pos h1, if_pos (by omega)]
      · rw [if_neg h1]
        by_cases h2 : j = 5 + i
        · rw [h2, xm_ra, if_pos (by omega)]
        · rw [xm_rk h2, if_neg (by omega)]
theorem m_first {h : xm_H} {t n p : Nat} {B : Nat → Nat} {T : Nat → Int32} (hR : h.2.2 = xm_R0 t) (ht : t = 5 ∨ t = 13) (hn : n ≤ 1000) (hc : MX n B h (.ok p)) (hT : h.1 88 = T) : ∃ g, xm_V (xm_X0 L xs) xm_P (d + 12) 201 [.ref 82] h none g ∧ NF h g ∧ MR n B g (pfirst n B T p) := by
  obtain ⟨g0, z0, z1, z2⟩ := m_needs (L := L) (xs := xs) (d := d + 1) hR ht hn hc sx_1030
  have R0 : g0.2.2 = xm_R0 t := z1.R hR
  obtain ⟨v2, g2, a1, a3, a4, a5⟩ := m_told (L := L) (xs := xs) (d := d) (lo := 1) (hi := 48) R0 ht hn z2 sx_1032 (by decide) (by decide)
  have R2 : g2.2.2 = xm_R0 t := a3.R R0
  obtain ⟨v4, g4, b1, b3, b4, b5⟩ := m_told (L := L) (xs := xs) (d := d) (h := xm_si g2 88 0 v2) (lo := 1) (hi := 48) R2 ht hn (a4.si (by omega)) sx_1034 (by decide) (by decide)
  have R4 : g4.2.2 = xm_R0 t := b3.R R2
  obtain ⟨v6, g6, c1, c3, c4, c5⟩ := m_told (L := L) (xs := xs) (d := d) (h := xm_si g4 88 1 v4) (lo := 1) (hi := 9) R4 ht hn (b4.si (by omega)) sx_1036 (by decide) (by decide)
  have R6 : g6.2.2 = xm_R0 t := c3.R R4
  obtain ⟨v8, g8, d1, d3, d4, d5⟩ := m_told (L := L) (xs := xs) (d := d) (h := xm_si g6 88 2 v6) (lo := 1) (hi := 60) R6 ht hn (c4.si (by omega)) sx_1038 (by decide) (by decide)
  have R8 : g8.2.2 = xm_R0 t := d3.R R6
  obtain ⟨v10, g10, f1, f3, f4, f5⟩ := m_told (L := L) (xs := xs) (d := d) (h := xm_si g8 88 3 v8) (lo := 1) (hi := 60) R8 ht hn (d4.si (by omega)) sx_1040 (by decide) (by decide)
  have R10 : g10.2.2 = xm_R0 t := f3.R R8
  obtain ⟨g, k0, k1, k2, k3⟩ := m_fill (L := L) (xs := xs) (d := d + 4) ht 6 0 (xm_si g10 88 4 v10) (by omega) R10
  have V := v_X11_readFirst (d := d + 11) (s_X11_readFirst_0_0 (L := L) (xs := xs) (d := d + 4) ht z0 R0 a1 R2 b1 R4 c1 R6 d1 R8 f1 k0)
  refine ⟨g, V, ?_, ?_⟩
  · have fN : NF (xm_si g10 88 4 v10) g := ⟨k1, fun q _ h2 => k2 q h2, by rw [k2 82 (by decide)]⟩
    exact ((((((((((z1.nf.trans a3.nf).trans NF.si).trans b3.nf).trans NF.si).trans c3.nf).trans NF.si).trans d3.nf).trans NF.si).trans f3.nf).trans NF.si).trans fN
  · have fX : MX n B g (er2 (sE n B (.ok p))) := by
      have q := f4.si (n := n) (q := 88) (k := 4) (v := v10) (by omega)
      unfold MX at q ⊢
      rw [k2 82 (by decide), k2 86 (by decide)]
      exact q
    refine MR.fin fX (fun q hq => ?_)
    have hE : er2 (sE n B (.ok p)) = .ok q := hq
    have eE := ev1_ok (x := sE n B (.ok p)) hE f5
    obtain ⟨p9, q9, -⟩ := ebn_ok (er2_ok hE)
    obtain ⟨p8, q8, -⟩ := ebn_ok q9
    have eD := ev1_ok (x := sD n B (.ok p)) q8 d5
    obtain ⟨p7, q7, -⟩ := ebn_ok (er2_ok q8)
    obtain ⟨p6, q6, -⟩ := ebn_ok q7
    have eC := ev1_ok (x := sC n B (.ok p)) q6 c5
    obtain ⟨p5, q5, -⟩ := ebn_ok (er2_ok q6)
    obtain ⟨p4, q4, -⟩ := ebn_ok q5
    have eB := ev1_ok (x := sB n B (.ok p)) q4 b5
    obtain ⟨p3, q3, -⟩ := ebn_ok (er2_ok q4)
    obtain ⟨p2, q2, -⟩ := ebn_ok q3
    have eA := ev1_ok (x := sA n B (.ok p)) q2 a5
    have e88 : (xm_si g10 88 4 v10).1 88 = up (up (up (up (up T 0 v2) 1 v4) 2 v6) 3 v8) 4 v10 := by
      rw [si_up, f3.2.1 88 (by decide), si_up, d3.2.1 88 (by decide), si_up, c3.2.1 88 (by decide), si_up, b3.2.1 88 (by decide), si_up, a3.2.1 88 (by decide), z1.2.1 88 (by decide), hT]
    rw [eA, eB, eC, eD, eE] at e88
    funext j
    rw [k3 j, ← eE, ← eD, ← eC, ← eB, ← eA]
    rw [← eE, ← eD, ← eC, ← eB, ← eA] at e88
    rw [e88]
    unfold T6
    by_cases hj : 5 ≤ j ∧ j < 11
    · rw [if_pos (by omega)]
    · rw [if_neg (by omega)]
theorem m_call {h : xm_H} {t n c p : Nat} {B : Nat → Nat} {T : Nat → Int32} (hR : h.2.2 = xm_R0 t) (ht : t = 5 ∨ t = 13) (hn : n ≤ 1000) (hc : MX n B h (.ok (ten n B p))) (hT : h.1 88 = T) (hcc : c < 6) (e19 : T 19 = nI c) : ∃ g, xm_V (xm_X0 L xs) xm_P (d + 12) 210 [.ref 82] h none g ∧ NF h g ∧ MR n B g (pcall n B T c p) := by
  have n0 : ¬ (1 : Int32) = 0 := by decide
  obtain ⟨g0, z0, z1, z2⟩ := m_needs (L := L) (xs := xs) (d := d + 1) hR ht hn hc sx_1068
  obtain ⟨v1, g1, a1, a3, a4, a5⟩ := m_act (L := L) (xs := xs) (d := d) (z1.R hR) ht hn z2
  obtain ⟨g2, y0, y1, y2⟩ := m_needs (L := L) (xs := xs) (d := d + 1) (a3.R (z1.R hR)) ht hn a4 sx_1078
  obtain ⟨v3, g3, b1, b3, b4, b5⟩ := m_act (L := L) (xs := xs) (d := d) (y1.R (a3.R (z1.R hR))) ht hn y2
  have R3 : g3.2.2 = xm_R0 t := b3.R (y1.R (a3.R (z1.R hR)))
  have F : MF h g3 := ((z1.trans a3).trans y1).trans b3
  have hX : MX n B g3 (er2 (pwc n B wHis sAct (er2 (pwc n B wHer sAct (.ok (ten n B p)))))) := b4
  cases hx : er2 (pwc n B wHis sAct (er2 (pwc n B wHer sAct (.ok (ten n B p))))) with
  | error e =>
    rw [hx] at hX
    refine ⟨g3, v_X11_readCall (d := d + 11) (s_X11_readCall_0_0 (d := d + 4) ht z0 a1 y0 b1 R3 hX.bad), F.nf, ?_⟩
    unfold pcall
    simp only
    rw [hx]
    exact hX
  | ok q =>
    have hX0 := hX
    rw [hx] at hX
    have eb' := ev1_ok hx b5
    obtain ⟨p9, q9, -⟩ := ebn_ok (er2_ok hx)
    obtain ⟨p8, q8, -⟩ := ebn_ok q9
    have ea' := ev1_ok q8 a5
    have e3 : g3.1 88 = T := by rw [F.2.1 88 (by decide), hT]
    have x19 : g3.1 88 19 = nI c := by rw [e3]; exact e19
    have i1 : (24 : Int32) + (2 : Int32) * nI c = nI (24 + 2 * c) := by rw [show (2 : Int32) = nI 2 from rfl, nm_mul]; exact nI_add 24 _
    have V := v_X11_readCall (d := d + 11) (s_X11_readCall_0_1 (L := L) (xs := xs) (d := d + 4) ht z0 a1 y0 b1 R3 (by rw [show F_X11_good g3 t = 1 from hX.good]; exact n0) (by rw [x19, i1]; exact nI_in (by omega) (by decide)) (by rw [x19, i1, nI_clamp (by omega), xm_rk (by omega), x19, i1, nI_1]; exact nI_in (by omega) (by decide)))
    rw [x19, i1, nI_clamp (by omega), xm_rk (show 19 ≠ 24 + 2 * c by omega), x19, i1, nI_1, nI_clamp (by omega), xm_rk (show 19 ≠ 24 + 2 * c + 1 by omega), xm_rk (show 19 ≠ 24 + 2 * c by omega), x19, nI_1] at V
    refine ⟨_, V, ((F.nf.trans NF.si).trans NF.si).trans NF.si, ?_⟩
    refine MR.fin (((hX0.si (by omega)).si (by omega)).si (by omega)) (fun q' hq => ?_)
    rw [si_up, si_up, si_up, e3, ea', eb', show 24 + 2 * c + 1 = 25 + 2 * c by omega]
theorem m_wish {h : xm_H} {t n p : Nat} {B : Nat → Nat} {T : Nat → Int32} (hR : h.2.2 = xm_R0 t) (ht : t = 5 ∨ t = 13) (hn : n ≤ 1000) (hc : MX n B h (.ok (ten n B p))) (hT : h.1 88 = T) : ∃ g, xm_V (xm_X0 L xs) xm_P (d + 12) 212 [.ref 82] h none g ∧ NF h g ∧ MR n B g (pwish n B T p) := by
  have n0 : ¬ (1 : Int32) = 0 := by decide
  obtain ⟨v0, g0, z0, z1, z2, z3⟩ := m_told (L := L) (xs := xs) (d := d) (lo := 1) (hi := 48) hR ht hn hc sx_1032 (by decide) (by decide)
  obtain ⟨v1, g1, a1, a3, a4, a5⟩ := m_told (L := L) (xs := xs) (d := d) (lo := 1) (hi := 48) (z1.R hR) ht hn z2 sx_1034 (by decide) (by decide)
  obtain ⟨v2, g2, y0, y1, y2, y3⟩ := m_facing (L := L) (xs := xs) (d := d) (a3.R (z1.R hR)) ht hn a4
  obtain ⟨v3, g3, b1, b3, b4, b5⟩ := m_hemming (L := L) (xs := xs) (d := d) (y1.R (a3.R (z1.R hR))) ht hn y2
  have R3 : g3.2.2 = xm_R0 t := b3.R (y1.R (a3.R (z1.R hR)))
  have F : MF h g3 := ((z1.trans a3).trans y1).trans b3
  have hX : MX n B g3 (er2 (ebn (er2 (ebn (er2 (pwn n B wWide 1 48 (er2 (pwn n B wLong 1 48 (.ok (ten n B p)))))) (pch n B sFac))) (pch n B sHem))) := b4
  cases hx : er2 (ebn (er2 (ebn (er2 (pwn n B wWide 1 48 (er2 (pwn n B wLong 1 48 (.ok (ten n B p)))))) (pch n B sFac))) (pch n B sHem)) with
  | error e =>
    rw [hx] at hX
    refine ⟨g3, v_X11_readWish (d := d + 11) (s_X11_readWish_0_0 (d := d + 4) ht z0 a1 y0 b1 R3 hX.bad), F.nf, ?_⟩
    unfold pwish
    simp only
    rw [hx]
    exact hX
  | ok q =>
    have hX0 := hX
    rw [hx] at hX
    have ef := ev1_ok hx b5
    obtain ⟨p9, q9, -⟩ := ebn_ok (er2_ok hx)
    have ec := ev1_ok q9 y3
    obtain ⟨p8, q8, -⟩ := ebn_ok (er2_ok q9)
    have eb' := ev1_ok q8 a5
    obtain ⟨p7, q7, -⟩ := ebn_ok (er2_ok q8)
    obtain ⟨p6, q6, -⟩ := ebn_ok q7
    have ea' := ev1_ok q6 z3
    have e3 : g3.1 88 = T := by rw [F.2.1 88 (by decide), hT]
    have V := v_X11_readWish (d := d + 11) (s_X11_readWish_0_1 (L := L) (xs := xs) (d := d + 4) ht z0 a1 y0 b1 R3 (by rw [show F_X11_good g3 t = 1 from hX.good]; exact n0))
    refine ⟨_, V, ((((F.nf.trans NF.si).trans NF.si).trans NF.si).trans NF.si).trans NF.si, ?_⟩
    refine MR.fin (((((hX0.si (by omega)).si (by omega)).si (by omega)).si (by omega)).si (by omega)) (fun q' hq => ?_)
    rw [si_up, si_up, si_up, si_up, si_up, e3, ea', eb', ec, ef]
/-- what is asked ahead of a line that can stand -/
theorem m_pre {h : xm_H} {t n p : Nat} {B : Nat → Nat} {g : xm_H} (hR : h.2.2 = xm_R0 t) (ht : t = 5 ∨ t = 13) (hn : n ≤ 1000) (hc : MX n B h (.ok p)) (hk : ¬ (ptk n B (.ok p) sMov = none ∧ ptk n B (.ok p) sKin = none)) (h0 : ptk n B (.ok p) sMov = none → ptk n B (.ok p) sKin = some 0 → ¬ h.1 88 19 = 6) (h4 : ptk n B (.ok p) sMov = none → ptk n B (.ok p) sKin = some 4 → ¬ h.1 88 20 = 4) (h5 : ptk n B (.ok p) sMov = none → ptk n B (.ok p) sKin = some 5 → ¬ h.1 88 21 = 6) (K : xm_E (xm_X0 L xs) xm_P (d + 12) co_X11_readNext 70 [some (.ref 82), some (.int (1 : Int32)), none, none] [] h none g) : xm_E (xm_X0 L xs) xm_P (d + 12) co_X11_readNext 0 [some (.ref 82), none, none, none] [] h none g := by
  obtain ⟨vm, Vm, em⟩ := m_moving (L := L) (xs := xs) (d := d + 1) hR ht hn hc
  have V := fun i hi => m_is (L := L) (xs := xs) (d := d + 4) hR ht hn hc (sx_kin i hi)
  have n0 : ¬ (1 : Int32) = 0 := by decide
  cases hm : ptk n B (.ok p) sMov with
  | some i =>
    obtain ⟨hi, -, hb⟩ := mov_b hm
    have W := fun k hk => (by have q := V k hk; rw [show rtw n B (.ok p) (wKin.getD k []) = false from hb k hk] at q; exact q : xm_V (xm_X0 L xs) xm_P (d + 12) 204 [.ref 82, .ref (1054 + 2 * k)] h (some (.int (b2i false))) h)
    rw [hm] at em
    refine s_X11_readNext_0_7 (d := d + 5) Vm (by rw [em]; exact fun e => ((nj_n1 (a := i) (k := 1) (by omega) (by decide) (by decide)).mp e).elim) ?_
    exact s_X11_readNext_31_1 (d := d + 5) n0 (s_X11_readNext_37_0 (d := d + 5) (W 0 (by decide)) rfl (s_X11_readNext_47_0 (d := d + 5) (W 4 (by decide)) rfl (W 5 (by decide)) rfl K))
  | none =>
    rw [hm] at em
    cases hq : ptk n B (.ok p) sKin with
    | none => exact absurd ⟨hm, hq⟩ hk
    | some i =>
      obtain ⟨hi, hb⟩ := kin_b hq
      have W := fun k hk => (by have q := V k hk; rw [show rtw n B (.ok p) (wKin.getD k []) = decide (k = i) from hb k hk] at q; exact q : xm_V (xm_X0 L xs) xm_P (d + 12) 204 [.ref 82, .ref (1054 + 2 * k)] h (some (.int (b2i (decide (k = i))))) h)
      have hi6 : i = 0 ∨ i = 1 ∨ i = 2 ∨ i = 3 ∨ i = 4 ∨ i = 5 := by omega
      rcases hi6 with rfl | rfl | rfl | rfl | rfl | rfl
      · refine s_X11_readNext_0_6 (d := d + 5) Vm em (W 0 (by decide)) (by decide) (s_X11_readNext_31_1 (d := d + 5) n0 ?_)
        exact s_X11_readNext_37_2 (d := d + 5) ht (W 0 (by decide)) (by decide) hR (h0 hm hq) (s_X11_readNext_47_0 (d := d + 5) (W 4 (by decide)) (by decide) (W 5 (by decide)) (by decide) K)
      · refine s_X11_readNext_0_5 (d := d + 5) Vm em (W 0 (by decide)) (by decide) (W 1 (by decide)) (by decide) (s_X11_readNext_31_1 (d := d + 5) n0 ?_)
        exact s_X11_readNext_37_0 (d := d + 5) (W 0 (by decide)) (by decide) (s_X11_readNext_47_0 (d := d + 5) (W 4 (by decide)) (by decide) (W 5 (by decide)) (by decide) K)
      · refine s_X11_readNext_0_4 (d := d + 5) Vm em (W 0 (by decide)) (by decide) (W 1 (by decide)) (by decide) (W 2 (by decide)) (by decide) (s_X11_readNext_31_1 (d := d + 5) n0 ?_)
        exact s_X11_readNext_37_0 (d := d + 5) (W 0 (by decide)) (by decide) (s_X11_readNext_47_0 (d := d + 5) (W 4 (by decide)) (by decide) (W 5 (by decide)) (by decide) K)
      · refine s_X11_readNext_0_3 (d := d + 5) Vm em (W 0 (by decide)) (by decide) (W 1 (by decide)) (by decide) (W 2 (by decide)) (by decide) (W 3 (by decide)) (by decide) (s_X11_readNext_31_1 (d := d + 5) n0 ?_)
        exact s_X11_readNext_37_0 (d := d + 5) (W 0 (by decide)) (by decide) (s_X11_readNext_47_0 (d := d + 5) (W 4 (by decide)) (by decide) (W 5 (by decide)) (by decide) K)
      · refine s_X11_readNext_0_2 (d := d + 5) Vm em (W 0 (by decide)) (by decide) (W 1 (by decide)) (by decide) (W 2 (by decide)) (by decide) (W 3 (by decide)) (by decide) (W 4 (by decide)) (by decide) (s_X11_readNext_31_1 (d := d + 5) n0 ?_)
        exact s_X11_readNext_37_0 (d := d + 5) (W 0 (by decide)) (by decide) (s_X11_readNext_47_4 (d := d + 5) ht (W 4 (by decide)) (by decide) hR (h4 hm hq) (W 5 (by decide)) (by decide) K)
      · refine s_X11_readNext_0_1 (d := d + 5) Vm em (W 0 (by decide)) (by decide) (W 1 (by decide)) (by decide) (W 2 (by decide)) (by decide) (W 3 (by decide)) (by decide) (W 4 (by decide)) (by decide) (W 5 (by decide)) (by decide) (s_X11_readNext_31_1 (d := d + 5) n0 ?_)
        exact s_X11_readNext_37_0 (d := d + 5) (W 0 (by decide)) (by decide) (s_X11_readNext_47_2 (d := d + 5) ht (W 4 (by decide)) (by decide) (W 5 (by decide)) (by decide) hR (h5 hm hq) K)
end OPS
