/-! What a row of numbers asks; plans. -/
theorem in_64 (x a b : Int64) : F_X11_in x a b = if a ≤ x ∧ x ≤ b then 1 else 0 := by
  unfold F_X11_in
  simp only [lg_cmp_lt, lg_cmp_gt]
  by_cases h1 : x < a
  · rw [if_pos h1, if_neg (fun q => Int64.not_le.mpr h1 q.1)]
  · by_cases h2 : b < x
    · rw [if_neg h1, if_pos h2, if_neg (fun q => Int64.not_le.mpr h2 q.2)]
    · rw [if_neg h1, if_neg h2, if_pos ⟨Int64.not_lt.mp h1, Int64.not_lt.mp h2⟩]
theorem ln_of {v : Int64} {B : Nat} (hB : B < 1048576) (h0 : (0 : Int) ≤ v.toInt) (h1 : v.toInt < B) : ∃ n, n < B ∧ v = lN n := by
  refine ⟨v.toInt.toNat, by omega, ?_⟩
  apply Int64.toInt_inj.1
  rw [lj_toInt (by omega)]
  omega
theorem in_lB {v z : Int64} {B : Nat} (hB : B < 1048576) (hz : z.toInt = (B : Int) - 1) : ((∃ n, n < B ∧ v = lN n) → F_X11_in v (0 : Int64) z = 1) ∧ ((¬ ∃ n, n < B ∧ v = lN n) → F_X11_in v (0 : Int64) z = 0) := by
  rw [in_64]
  constructor
  · rintro ⟨n, hn, rfl⟩
    rw [if_pos]
    rw [Int64.le_iff_toInt_le, Int64.le_iff_toInt_le, lj_toInt (by omega), hz, show (0 : Int64).toInt = 0 from rfl]
    omega
  · intro hn
    rw [if_neg]
    intro q
    rw [Int64.le_iff_toInt_le, Int64.le_iff_toInt_le, hz, show (0 : Int64).toInt = 0 from rfl] at q
    exact hn (ln_of hB q.1 (by omega))
theorem nB_toInt {B : Nat} (hB : B < 1048576) : ((nI B - (1 : Int32)).toInt64).toInt = (B : Int) - 1 := by
  rw [Int32.toInt_toInt64, Int32.toInt_sub, nI_toInt (by omega), show (1 : Int32).toInt = 1 from rfl]
  exact Int.bmod_eq_of_le (by omega) (by omega)
/-- a plan followed: how many numbers are left, where, the state, the seconds, how many were done -/
def fol (rm : Nat) (w : Nat → Int32) (nu : Nat → Nat) : Nat → Nat → St × Int32 × Nat → St × Int32 × Nat
  | 0, _, x => x
  | k + 1, i, x => match st_do rm (nu i) x.1 with
    | none => x
    | some s' => fol rm w nu k (i + 1) (s', x.2.1 + sc1 w (nu i), x.2.2 + 1)
section OPS
variable {L : Nat} {xs : Nat → Int32} {d : Nat} {SI : (Nat → Nat → Int32) → (Nat → Nat → Int64) → Prop}
theorem v_at {h : xm_H} {t s m i : Nat} (hR : h.2.2 = xm_R0 t) (s4 : s < 4) (hm : m ≤ 60) (hi : i < m) (e3 : h.1 (53 + 2 * s) 3 = nI m) : xm_V (xm_X0 L xs) xm_P (d + 8) 70 [.ref (53 + 2 * s), .int (nI i)] h (some (.long (h.2.1 (54 + 2 * s) i))) h := by
  have V := v_X2_at (d := d + 7) (s_X2_at_0_2 (L := L) (xs := xs) (d := d) (h := h) (l0 := 53 + 2 * s) (l1 := nI i) (nI_pos (by omega)) (rw_sh s4) (by rw [e3]; exact nI_ge hi (by omega)) (rw_num hR s4) (rw_shn s4) (nI_in (by omega) (by omega)))
  rw [nI_clamp (by omega)] at V
  exact V
theorem ask0 {h : xm_H} {t : Nat} {a f : Int32} (ht : t = 5 ∨ t = 13) (hR : h.2.2 = xm_R0 t) (hw : rl_wf (h.1 83)) (hl : h.1 t 0 = h.1 83 22) : xm_V (xm_X0 L xs) xm_P (d + 8) 252 [.ref 82, .int a, .int 0, .int f] h (some (.int (-2))) h := by
  by_cases hs : nb a 0 3
  · have m2 : F_X11_isSlot a = 1 := (in_0_3 a).1 hs
    by_cases hn : h.1 83 22 = 0
    · exact v_X11_asksRow (d := d + 7) (s_X11_asksRow_0_1 (d := d) hR ht (by rw [m2]; decide) (ln_0 (t := t) hl hn).2)
    · exact v_X11_asksRow (d := d + 7) (s_X11_asksRow_0_2 (d := d) hR ht (by rw [m2]; decide) (by rw [(ln_1 (t := t) hl hw.1 hn).2]; decide) rfl)
  · exact v_X11_asksRow (d := d + 7) (s_X11_asksRow_0_0 (d := d) ((in_0_3 a).2 hs))
theorem ask_of {h : xm_H} {t B : Nat} {a f bx : Int32} (hr : Rel SI h) (ht : t = 5 ∨ t = 13) (hR : h.2.2 = xm_R0 t) (hw : rl_wf (h.1 83)) (hl : h.1 t 0 = h.1 83 22) (hbx : bx = nI B) (hB : B ≤ 10) (hf : (f = 0 ∧ B = 10) ∨ (f = 1 ∧ h.1 83 19 = nI B)) : ∃ r : Int32, (r = 0 ∨ r = -2 ∨ r = -6) ∧ xm_V (xm_X0 L xs) xm_P (d + 10) 67 [.ref 0, .int a, .int bx] h (some (.int r)) h ∧ (∀ g : xm_H, (g.2.2 = h.2.2 ∧ g.2.1 101 = h.2.1 101) → g.1 83 = h.1 83 → g.1 99 = h.1 99 → xm_V (xm_X0 L xs) xm_P (d + 10) 252 [.ref 82, .int a, .int 1, .int f] g (some (.int r)) g) ∧ (r = 0 → ¬ h.1 83 22 = 0 ∧ ∃ s m, s < 4 ∧ a = nI s ∧ m ≤ 60 ∧ h.1 (53 + 2 * s) 3 = nI m ∧ h.1 99 s = nI m ∧ ∀ i, i < m → ∃ n, n < B ∧ h.2.1 (54 + 2 * s) i = lN n ∧ h.2.1 101 (60 * s + i) = lN n) := by
  subst hbx
  have n0 : ¬ (1 : Int32) = 0 := by decide
  have LG : ∀ g : xm_H, g.1 83 = h.1 83 → F_X11_isLinen g t = F_X11_isLinen h t := fun g e => by
    unfold F_X11_isLinen
    rw [e]
  by_cases hs : nb a 0 3
  · have m1 := (x_isSlot a).1 hs
    have m2 : F_X11_isSlot a = 1 := (in_0_3 a).1 hs
    by_cases hn : h.1 83 22 = 0
    · have q := ln_0 (t := t) hl hn
      exact ⟨-2, by decide, v_X10_wrongRow (d := d + 9) (s_X10_wrongRow_0_4 (d := d + 2) hR ht (by rw [q.1]; exact n0)), fun g e2 e83 _ => v_X11_asksRow (d := d + 9) (s_X11_asksRow_0_1 (d := d + 2) (e2.1.trans hR) ht (by rw [m2]; exact n0) (by rw [LG g e83]; exact q.2)), fun z => absurd z (by decide)⟩
    · have q := ln_1 (t := t) hl hw.1 hn
      obtain ⟨s, -, hs3, rfl⟩ := hs
      have s4 : s < 4 := by omega
      have ec : (nI s).toNatClampNeg = s := nI_clamp (by omega)
      rcases hr.rows s s4 with ⟨r0, r1⟩ | ⟨r0, m, hm, r1, r2, w, hw3, r3, r4, r5⟩
      · exact ⟨-6, by decide, v_X10_wrongRow (d := d + 9) (s_X10_wrongRow_0_1 (d := d + 2) hR ht q.1 (by rw [m1]; exact n0) (g_sl s4) (rw_ref hR s4) (rw_sh s4) r0), fun g e2 e83 e99 => v_X11_asksRow (d := d + 9) (s_X11_asksRow_0_3 (d := d + 2) (e2.1.trans hR) ht (by rw [m2]; exact n0) (by rw [LG g e83, q.2]; exact n0) n0 (g_sl s4) (by rw [ec, e99]; exact r1)), fun z => absurd z (by decide)⟩
      · have c4 : ¬ h.1 (53 + 2 * s) 1 = 0 := by rw [r0]; exact n0
        have d4 : ¬ h.1 99 (nI s).toNatClampNeg = -1 := by rw [ec, r2]; exact n_1 (by omega)
        have loop : ∀ k i, k + i = m → ∃ b : Bool, xm_E (xm_X0 L xs) xm_P (d + 8) co_X2_isBelow 2 [some (.ref (53 + 2 * s)), some (.int (nI B)), some (.int (nI i))] [] h (some (.int (if b = true then 1 else 0))) h ∧ (∀ g : xm_H, (g.2.2 = h.2.2 ∧ g.2.1 101 = h.2.1 101) → g.1 83 = h.1 83 → g.1 99 = h.1 99 → xm_E (xm_X0 L xs) xm_P (d + 9) co_X11_asksRow 20 [some (.ref 82), some (.int (nI s)), some (.int 1), some (.int f), some (.int (nI i))] [] g (some (.int (if b = true then 0 else -2))) g) ∧ (b = true → ∀ j, i ≤ j → j < m → ∃ n, n < B ∧ h.2.1 (54 + 2 * s) j = lN n) := by
          intro k
          induction k with
          | zero =>
            intro i hk
            have hic : i = m := by omega
            subst hic
            exact ⟨true, s_X2_isBelow_2_0 (d := d + 1) (rw_sh s4) (by rw [r1]; exact nI_le (by omega) (by omega)), fun g e2 e83 e99 => s_X11_asksRow_20_0 (d := d + 2) (e2.1.trans hR) ht (g_sl s4) (by rw [ec, e99, r2]; exact nI_le (by omega) (by omega)), fun _ j h1 h2 => absurd h1 (by omega)⟩
          | succ k ih =>
            intro i hk
            have c1 : ¬ (h.1 (53 + 2 * s) 3 ≤ nI i) := by rw [r1]; exact nI_ge (by omega) (by omega)
            have c2 : ∀ g : xm_H, g.1 99 = h.1 99 → ¬ (g.1 99 (nI s).toNatClampNeg ≤ nI i) := fun g e => by rw [ec, e, r2]; exact nI_ge (by omega) (by omega)
            have V := v_at (L := L) (xs := xs) (d := d) hR s4 hm (show i < m by omega) r1
            have en : ∀ g : xm_H, (g.2.2 = h.2.2 ∧ g.2.1 101 = h.2.1 101) → F_X11_numberAt g t (nI s) (nI i) = h.2.1 (54 + 2 * s) i := fun g e => by
              unfold F_X11_numberAt
              rw [ix_60, nI_clamp (by omega), e.2, r5 i (by omega)]
            by_cases hP : ∃ n, n < B ∧ h.2.1 (54 + 2 * s) i = lN n
            · have hP' := hP
              obtain ⟨n, hnB, en2⟩ := hP
              obtain ⟨b, E1, E2, E3⟩ := ih (i + 1) (by omega)
              refine ⟨b, s_X2_isBelow_2_2 (d := d + 1) (rw_sh s4) c1 V ?_ V ?_ (by rw [nI_1]; exact E1), ?_, fun hb j h1 h2 => ?_⟩
              · rw [lg_cmp_lt, en2, Int64.lt_iff_toInt_lt, lj_toInt (by omega), show (0 : Int64).toInt = 0 from rfl]
                omega
              · rw [lg_cmp_lt, en2, nI_l (by omega), lj_lt (by omega) (by omega)]
                exact hnB
              · intro g e2 e83 e99
                rcases hf with ⟨rfl, hB10⟩ | ⟨rfl, e19⟩
                · refine s_X11_asksRow_20_2 (d := d + 2) (e2.1.trans hR) ht (g_sl s4) (c2 g e99) rfl (g_60 s4 (by omega)) ?_ (by rw [nI_1]; exact E2 g e2 e83 e99)
                  unfold F_X11_isMove
                  rw [en g e2, (in_lB (B := B) (by omega) (by rw [hB10]; rfl)).1 hP']
                  exact n0
                · refine s_X11_asksRow_20_4 (d := d + 2) (e2.1.trans hR) ht (g_sl s4) (c2 g e99) n0 (g_60 s4 (by omega)) ?_ (by rw [nI_1]; exact E2 g e2 e83 e99)
                  unfold F_X11_isCall
                  rw [en g e2, e83, e19, (in_lB (B := B) (by omega) (nB_toInt (by omega))).1 hP']
                  exact n0
              · by_cases hji : j = i
                · subst hji
                  exact hP'
                · exact E3 hb j (by omega) h2
            · refine ⟨false, ?_, ?_, fun z => absurd z (by decide)⟩
              · by_cases hv : h.2.1 (54 + 2 * s) i < 0
                · exact s_X2_isBelow_2_1 (d := d + 1) (rw_sh s4) c1 V ((lg_cmp_lt _ _).mpr hv)
                · refine s_X2_isBelow_2_3 (d := d + 1) (rw_sh s4) c1 V (fun z => hv ((lg_cmp_lt _ _).mp z)) V (fun z => hP ?_)
                  rw [lg_cmp_lt, nI_l (by omega), Int64.lt_iff_toInt_lt, lj_toInt (by omega)] at z
                  rw [Int64.lt_iff_toInt_lt, show (0 : Int64).toInt = 0 from rfl] at hv
                  exact ln_of (by omega) (by omega) z
              · intro g e2 e83 e99
                rcases hf with ⟨rfl, hB10⟩ | ⟨rfl, e19⟩
                · refine s_X11_asksRow_20_1 (d := d + 2) (e2.1.trans hR) ht (g_sl s4) (c2 g e99) rfl (g_60 s4 (by omega)) ?_
                  unfold F_X11_isMove
                  rw [en g e2, (in_lB (B := B) (by omega) (by rw [hB10]; rfl)).2 hP]
                · refine s_X11_asksRow_20_3 (d := d + 2) (e2.1.trans hR) ht (g_sl s4) (c2 g e99) n0 (g_60 s4 (by omega)) ?_
                  unfold F_X11_isCall
                  rw [en g e2, e83, e19, (in_lB (B := B) (by omega) (nB_toInt (by omega))).2 hP]
        obtain ⟨b, E1, E2, E3⟩ := loop m 0 (by omega)
        have VB := v_X2_isBelow (d := d + 8) (s_X2_isBelow_0_0 (d := d + 1) E1)
        have V2 := fun (g : xm_H) (e2 : g.2.2 = h.2.2 ∧ g.2.1 101 = h.2.1 101) (e83 : g.1 83 = h.1 83) (e99 : g.1 99 = h.1 99) => v_X11_asksRow (d := d + 9) (s_X11_asksRow_0_4 (d := d + 2) (t := t) (e2.1.trans hR) ht (by rw [m2]; exact n0) (by rw [LG g e83, q.2]; exact n0) n0 (g_sl s4) (by rw [e99]; exact d4) (E2 g e2 e83 e99))
        cases b with
        | true =>
          refine ⟨0, by decide, v_X10_wrongRow (d := d + 9) (s_X10_wrongRow_0_3 (d := d + 2) hR ht q.1 (by rw [m1]; exact n0) (g_sl s4) (rw_ref hR s4) (rw_sh s4) c4 VB n0), V2, fun _ => ⟨hn, s, m, s4, rfl, hm, r1, r2, fun i hi => ?_⟩⟩
          obtain ⟨n, h1, h2⟩ := E3 rfl i (by omega) hi
          exact ⟨n, h1, h2, by rw [← r5 i hi]; exact h2⟩
        | false => exact ⟨-2, by decide, v_X10_wrongRow (d := d + 9) (s_X10_wrongRow_0_2 (d := d + 2) hR ht q.1 (by rw [m1]; exact n0) (g_sl s4) (rw_ref hR s4) (rw_sh s4) c4 VB rfl), V2, fun z => absurd z (by decide)⟩
  · have m1 := (x_isSlot a).2 hs
    have m2 : F_X11_isSlot a = 0 := (in_0_3 a).2 hs
    have V2 := fun (g : xm_H) (_ : g.2.2 = h.2.2 ∧ g.2.1 101 = h.2.1 101) (_ : g.1 83 = h.1 83) (_ : g.1 99 = h.1 99) => v_X11_asksRow (d := d + 9) (s_X11_asksRow_0_0 (L := L) (xs := xs) (d := d + 2) (h := g) (l1 := a) (l2 := 1) (l3 := f) m2)
    by_cases hn : h.1 83 22 = 0
    · have q := ln_0 (t := t) hl hn
      exact ⟨-2, by decide, v_X10_wrongRow (d := d + 9) (s_X10_wrongRow_0_4 (d := d + 2) hR ht (by rw [q.1]; exact n0)), V2, fun z => absurd z (by decide)⟩
    · have q := ln_1 (t := t) hl hw.1 hn
      exact ⟨-2, by decide, v_X10_wrongRow (d := d + 9) (s_X10_wrongRow_0_0 (d := d + 2) hR ht q.1 m1), V2, fun z => absurd z (by decide)⟩
end OPS
