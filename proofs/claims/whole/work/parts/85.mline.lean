/-! The reference's words: which of them. -/
theorem sx_1030 : SX 1030 wLinen := by decide +kernel
theorem sx_1032 : SX 1032 wLong := by decide +kernel
theorem sx_1034 : SX 1034 wWide := by decide +kernel
theorem sx_1036 : SX 1036 wThick := by decide +kernel
theorem sx_1038 : SX 1038 wRoom := by decide +kernel
theorem sx_1040 : SX 1040 wArms := by decide +kernel
theorem sx_1066 : SX 1066 wTakes := by decide +kernel
theorem sx_1068 : SX 1068 wHer := by decide +kernel
theorem sx_1078 : SX 1078 wHis := by decide +kernel
theorem sx_1094 : SX 1094 wLearns := by decide +kernel
def wMov : List (List Nat) := [[104, 97, 108, 118, 101], [116, 104, 105, 114, 100], [109, 101, 101, 116], [116, 117, 114, 110], [113, 117, 97, 114, 116, 101, 114], [117, 110, 116, 119, 105, 115, 116]]
def wKin : List (List Nat) := [[99, 97, 108, 108], [115, 108, 105, 112, 115], [119, 105, 115, 104], [112, 114, 101, 115, 115], [112, 97, 105, 114], [112, 105, 108, 101]]
def wAct : List (List Nat) := [[116, 111, 112], [98, 111, 116, 116, 111, 109], [119, 97, 108, 107], [115, 116, 97, 121]]
def wFac : List (List Nat) := [[102, 114, 111, 110, 116], [98, 97, 99, 107], [101, 105, 116, 104, 101, 114]]
def wHem : List (List Nat) := [[116, 111, 112], [98, 111, 116, 116, 111, 109], [108, 101, 102, 116], [114, 105, 103, 104, 116], [105, 110], [97, 110, 121]]
theorem sx_mov : ∀ i, i < 6 → SX (1042 + 2 * i) (wMov.getD i []) := by decide +kernel
theorem sx_kin : ∀ i, i < 6 → SX (1054 + 2 * i) (wKin.getD i []) := by decide +kernel
theorem sx_act : ∀ i, i < 4 → SX (1070 + 2 * i) (wAct.getD i []) := by decide +kernel
theorem sx_fac : ∀ i, i < 3 → SX (1080 + 2 * i) (wFac.getD i []) := by decide +kernel
theorem sx_h0 : SX 1070 (wHem.getD 0 []) := by decide +kernel
theorem sx_h1 : SX 1072 (wHem.getD 1 []) := by decide +kernel
theorem sx_h2 : ∀ i, i < 4 → SX (1086 + 2 * i) (wHem.getD (i + 2) []) := by decide +kernel
section PURE
variable {n : Nat} {B : Nat → Nat}
theorem tw_ex {p : Nat} {W W' : List Nat} (h : tw n B p W = true) (h' : tw n B p W' = true) : W = W' := by
  have a := of_decide_eq_true h
  have b := of_decide_eq_true h'
  have hl : W.length = W'.length := by
    have := a.2.1
    have := b.2.1
    omega
  apply List.ext_getElem hl
  intro i h1 h2
  have x := a.2.2 i (by omega)
  have y := b.2.2 i (by omega)
  rw [Nat.zero_add, List.getD_eq_getElem?_getD, List.getElem?_eq_getElem h1] at x
  rw [Nat.zero_add, List.getD_eq_getElem?_getD, List.getElem?_eq_getElem h2] at y
  exact x.trans y.symm
/-- the first of the words that stands at p -/
def pix (n : Nat) (B : Nat → Nat) (p : Nat) : List (List Nat) → Nat → Option Nat
  | [], _ => none
  | W :: r, c => if tw n B p W then some c else pix n B p r (c + 1)
theorem pix_y {p c : Nat} {W : List Nat} {r : List (List Nat)} (h : tw n B p W = true) : pix n B p (W :: r) c = some c := if_pos h
theorem pix_n {p c : Nat} {W : List Nat} {r : List (List Nat)} (h : tw n B p W = false) : pix n B p (W :: r) c = pix n B p r (c + 1) := if_neg (by rw [h]; decide)
theorem pix_some {p : Nat} : ∀ (Ws : List (List Nat)) (c i : Nat), pix n B p Ws c = some i → c ≤ i ∧ i < c + Ws.length ∧ tw n B p (Ws.getD (i - c) []) = true := by
  intro Ws
  induction Ws with
  | nil => intro c i h; cases h
  | cons W r ih =>
    intro c i h
    unfold pix at h
    split at h
    · rename_i hw
      cases h
      refine ⟨Nat.le_refl _, by simp, ?_⟩
      rw [Nat.sub_self]
      exact hw
    · obtain ⟨h1, h2, h3⟩ := ih (c + 1) i h
      refine ⟨by omega, by simp only [List.length_cons]; omega, ?_⟩
      rw [show i - c = (i - (c + 1)) + 1 by omega]
      exact h3
theorem pix_none {p : Nat} : ∀ (Ws : List (List Nat)) (c : Nat), pix n B p Ws c = none → ∀ k, k < Ws.length → tw n B p (Ws.getD k []) = false := by
  intro Ws
  induction Ws with
  | nil => intro c h k hk; exact absurd hk (Nat.not_lt_zero _)
  | cons W r ih =>
    intro c h k hk
    unfold pix at h
    split at h
    · cases h
    · rename_i hw
      cases k with
      | zero => exact Bool.eq_false_iff.mpr hw
      | succ k => exact ih (c + 1) h k (by simp only [List.length_cons] at hk; omega)
theorem pt_mov {p : Nat} : ptk n B (.ok p) sMov = pix n B p wMov 0 := by
  have e : ptk n B (.ok p) sMov = tkl sMov (sw n B p sMov) 38 0 0 0 := rfl
  rw [e, tkl_mov, sw_tw (W := wMov.getD 0 []) (by decide) (by decide), sw_tw (W := wMov.getD 1 []) (by decide) (by decide), sw_tw (W := wMov.getD 2 []) (by decide) (by decide), sw_tw (W := wMov.getD 3 []) (by decide) (by decide), sw_tw (W := wMov.getD 4 []) (by decide) (by decide), sw_tw (W := wMov.getD 5 []) (by decide) (by decide)]
  rfl
theorem pt_kin {p : Nat} : ptk n B (.ok p) sKin = pix n B p wKin 0 := by
  have e : ptk n B (.ok p) sKin = tkl sKin (sw n B p sKin) 32 0 0 0 := rfl
  rw [e, tkl_kin, sw_tw (W := wKin.getD 0 []) (by decide) (by decide), sw_tw (W := wKin.getD 1 []) (by decide) (by decide), sw_tw (W := wKin.getD 2 []) (by decide) (by decide), sw_tw (W := wKin.getD 3 []) (by decide) (by decide), sw_tw (W := wKin.getD 4 []) (by decide) (by decide), sw_tw (W := wKin.getD 5 []) (by decide) (by decide)]
  rfl
theorem pt_act {p : Nat} : ptk n B (.ok p) sAct = pix n B p wAct 0 := by
  have e : ptk n B (.ok p) sAct = tkl sAct (sw n B p sAct) 21 0 0 0 := rfl
  rw [e, tkl_act, sw_tw (W := wAct.getD 0 []) (by decide) (by decide), sw_tw (W := wAct.getD 1 []) (by decide) (by decide), sw_tw (W := wAct.getD 2 []) (by decide) (by decide), sw_tw (W := wAct.getD 3 []) (by decide) (by decide)]
  rfl
theorem pt_fac {p : Nat} : ptk n B (.ok p) sFac = pix n B p wFac 0 := by
  have e : ptk n B (.ok p) sFac = tkl sFac (sw n B p sFac) 18 0 0 0 := rfl
  rw [e, tkl_fac, sw_tw (W := wFac.getD 0 []) (by decide) (by decide), sw_tw (W := wFac.getD 1 []) (by decide) (by decide), sw_tw (W := wFac.getD 2 []) (by decide) (by decide)]
  rfl
theorem pt_hem {p : Nat} : ptk n B (.ok p) sHem = pix n B p wHem 0 := by
  have e : ptk n B (.ok p) sHem = tkl sHem (sw n B p sHem) 29 0 0 0 := rfl
  rw [e, tkl_hem, sw_tw (W := wHem.getD 0 []) (by decide) (by decide), sw_tw (W := wHem.getD 1 []) (by decide) (by decide), sw_tw (W := wHem.getD 2 []) (by decide) (by decide), sw_tw (W := wHem.getD 3 []) (by decide) (by decide), sw_tw (W := wHem.getD 4 []) (by decide) (by decide), sw_tw (W := wHem.getD 5 []) (by decide) (by decide)]
  rfl
theorem dk_inj : ∀ a, a < 6 → ∀ b, b < 6 → (wKin.getD a [] = wKin.getD b [] → a = b) ∧ (wMov.getD a [] = wMov.getD b [] → a = b) ∧ wMov.getD a [] ≠ wKin.getD b [] := by decide
theorem mov_b {p i : Nat} (h : ptk n B (.ok p) sMov = some i) : i < 6 ∧ (∀ k, k < 6 → tw n B p (wMov.getD k []) = decide (k = i)) ∧ (∀ k, k < 6 → tw n B p (wKin.getD k []) = false) := by
  rw [pt_mov] at h
  obtain ⟨-, h2, h3⟩ := pix_some _ _ _ h
  have hi : i < 6 := by have : wMov.length = 6 := rfl; omega
  rw [Nat.sub_zero] at h3
  refine ⟨hi, fun k hk => ?_, fun k hk => ?_⟩
  · by_cases e : k = i
    · rw [e, h3]; simp
    · rw [decide_eq_false e]
      exact Bool.eq_false_iff.mpr (fun hh => e ((dk_inj k hk i hi).2.1 (tw_ex hh h3)))
  · exact Bool.eq_false_iff.mpr (fun hh => (dk_inj i hi k hk).2.2 (tw_ex h3 hh))
theorem mov_n {p : Nat} (h : ptk n B (.ok p) sMov = none) : ∀ k, k < 6 → tw n B p (wMov.getD k []) = false := by
  rw [pt_mov] at h
  exact fun k hk => pix_none _ _ h k hk
theorem kin_b {p i : Nat} (h : ptk n B (.ok p) sKin = some i) : i < 6 ∧ (∀ k, k < 6 → tw n B p (wKin.getD k []) = decide (k = i)) := by
  rw [pt_kin] at h
  obtain ⟨-, h2, h3⟩ := pix_some _ _ _ h
  have hi : i < 6 := by have : wKin.length = 6 := rfl; omega
  rw [Nat.sub_zero] at h3
  refine ⟨hi, fun k hk => ?_⟩
  by_cases e : k = i
  · rw [e, h3]; simp
  · rw [decide_eq_false e]
    exact Bool.eq_false_iff.mpr (fun hh => e ((dk_inj k hk i hi).1 (tw_ex hh h3)))
theorem kin_n {p : Nat} (h : ptk n B (.ok p) sKin = none) : ∀ k, k < 6 → tw n B p (wKin.getD k []) = false := by
  rw [pt_kin] at h
  exact fun k hk => pix_none _ _ h k hk
end PURE
section OPS
variable {L : Nat} {xs : Nat → Int32} {d : Nat}
theorem MF.R {h g : xm_H} {t : Nat} (a : MF h g) (hR : h.2.2 = xm_R0 t) : g.2.2 = xm_R0 t := by rw [a.1]; exact hR
/-- one more word is tried -/
theorem m_try {h : xm_H} {t n w : Nat} {B : Nat → Nat} {S : List Nat} {r : Except (Nat × Nat) Nat} (hR : h.2.2 = xm_R0 t) (ht : t = 5 ∨ t = 13) (hn : n ≤ 1000) (hc : MX n B h r) (hs : SX w S) : (∃ g, xm_V (xm_X0 L xs) xm_P (d + 9) 203 [.ref 82, .ref w] h (some (.int 1)) g ∧ MF h g ∧ MX n B g (padv n B r) ∧ ∃ p, r = .ok p ∧ tw n B p S = true) ∨ (xm_V (xm_X0 L xs) xm_P (d + 9) 203 [.ref 82, .ref w] h (some (.int 0)) h ∧ ∀ p, r = .ok p → tw n B p S = false) := by
  have V := m_is (L := L) (xs := xs) (d := d) hR ht hn hc hs
  cases hq : rtw n B r S with
  | true =>
    left
    rw [hq] at V
    obtain ⟨g, g0, g1, g2⟩ := m_adv (L := L) (xs := xs) (d := d) hR ht hn hc
    refine ⟨g, v_X11_takes (d := d + 8) (s_X11_takes_0_1 (d := d + 1) V (by decide) g0 (by decide)), g1, g2, ?_⟩
    cases r with
    | error e => cases hq
    | ok p => exact ⟨p, rfl, hq⟩
  | false =>
    right
    rw [hq] at V
    refine ⟨v_X11_takes (d := d + 8) (s_X11_takes_0_0 (d := d + 1) V (by decide) (by decide)), fun p hp => ?_⟩
    subst hp
    exact hq
theorem pch_hit {n p i : Nat} {B : Nat → Nat} {S : List Nat} {g : xm_H} (h : ptk n B (.ok p) S = some i) (hx : MX n B g (padv n B (.ok p))) : MX n B g (er2 (ebn (.ok p) (pch n B S))) ∧ ev1 (nI i) (ebn (.ok p) (pch n B S)) := by
  have e : ebn (.ok p) (pch n B S) = .ok (i, ten n B p) := by
    show pch n B S p = _
    unfold pch
    rw [h]
  rw [e]
  exact ⟨hx, rfl⟩
theorem m_act {h : xm_H} {t n : Nat} {B : Nat → Nat} {r : Except (Nat × Nat) Nat} (hR : h.2.2 = xm_R0 t) (ht : t = 5 ∨ t = 13) (hn : n ≤ 1000) (hc : MX n B h r) : ∃ v g, xm_V (xm_X0 L xs) xm_P (d + 11) 211 [.ref 82] h (some (.int v)) g ∧ MF h g ∧ MX n B g (er2 (ebn r (pch n B sAct))) ∧ ev1 v (ebn r (pch n B sAct)) := by
  rcases m_try (L := L) (xs := xs) (d := d + 1) hR ht hn hc (sx_act 0 (by decide)) with ⟨g, V0, g1, g2, p, rfl, hw⟩ | ⟨V0, f0⟩
  · exact ⟨_, g, v_X11_act (d := d + 10) (s_X11_act_0_3 (d := d + 3) V0 (by decide)), g1, pch_hit (i := 0) (by rw [pt_act]; exact pix_y hw) g2⟩
  · rcases m_try (L := L) (xs := xs) (d := d + 1) hR ht hn hc (sx_act 1 (by decide)) with ⟨g, V1, g1, g2, p, rfl, hw⟩ | ⟨V1, f1⟩
    · have a0 := f0 p rfl
      exact ⟨_, g, v_X11_act (d := d + 10) (s_X11_act_0_2 (d := d + 3) V0 rfl V1 (by decide)), g1, pch_hit (i := 1) (by rw [pt_act]; exact (pix_n (f0 p rfl)).trans (pix_y hw)) g2⟩
    · rcases m_try (L := L) (xs := xs) (d := d + 1) hR ht hn hc (sx_act 2 (by decide)) with ⟨g, V2, g1, g2, p, rfl, hw⟩ | ⟨V2, f2⟩
      · have a0 := f0 p rfl
        have a1 := f1 p rfl
        exact ⟨_, g, v_X11_act (d := d + 10) (s_X11_act_0_1 (d := d + 3) V0 rfl V1 rfl V2 (by decide)), g1, pch_hit (i := 2) (by rw [pt_act]; exact (pix_n (f0 p rfl)).trans ((pix_n (f1 p rfl)).trans (pix_y hw))) g2⟩
      · obtain ⟨g, g0, g1, g2⟩ := m_needs (L := L) (xs := xs) (d := d) hR ht hn hc (sx_act 3 (by decide))
        refine ⟨_, g, v_X11_act (d := d + 10) (s_X11_act_0_0 (d := d + 3) V0 rfl V1 rfl V2 rfl g0), g1, ?_⟩
        cases r with
        | error e => exact ⟨g2, trivial⟩
        | ok p =>
          have a0 := f0 p rfl
          have a1 := f1 p rfl
          have a2 := f2 p rfl
          have e : ptk n B (.ok p) sAct = if tw n B p (wAct.getD 3 []) then some 3 else none := by
            rw [pt_act]
            exact (pix_n (f0 p rfl)).trans ((pix_n (f1 p rfl)).trans ((pix_n (f2 p rfl)).trans (rfl)))
          show MX n B g (er2 (pch n B sAct p)) ∧ ev1 _ (pch n B sAct p)
          have g2' : MX n B g (pw n B (wAct.getD 3 []) p) := g2
          unfold pch
          unfold pw at g2'
          rw [e]
          cases hq : tw n B p (wAct.getD 3 []) with
          | true => rw [hq] at g2'; exact ⟨g2', rfl⟩
          | false => rw [hq] at g2'; exact ⟨g2', trivial⟩
theorem m_facing {h : xm_H} {t n : Nat} {B : Nat → Nat} {r : Except (Nat × Nat) Nat} (hR : h.2.2 = xm_R0 t) (ht : t = 5 ∨ t = 13) (hn : n ≤ 1000) (hc : MX n B h r) : ∃ v g, xm_V (xm_X0 L xs) xm_P (d + 11) 213 [.ref 82] h (some (.int v)) g ∧ MF h g ∧ MX n B g (er2 (ebn r (pch n B sFac))) ∧ ev1 v (ebn r (pch n B sFac)) := by
  rcases m_try (L := L) (xs := xs) (d := d + 1) hR ht hn hc (sx_fac 0 (by decide)) with ⟨g, V0, g1, g2, p, rfl, hw⟩ | ⟨V0, f0⟩
  · exact ⟨_, g, v_X11_facing (d := d + 10) (s_X11_facing_0_2 (d := d + 3) V0 (by decide)), g1, pch_hit (i := 0) (by rw [pt_fac]; exact pix_y hw) g2⟩
  · rcases m_try (L := L) (xs := xs) (d := d + 1) hR ht hn hc (sx_fac 1 (by decide)) with ⟨g, V1, g1, g2, p, rfl, hw⟩ | ⟨V1, f1⟩
    · have a0 := f0 p rfl
      exact ⟨_, g, v_X11_facing (d := d + 10) (s_X11_facing_0_1 (d := d + 3) V0 rfl V1 (by decide)), g1, pch_hit (i := 1) (by rw [pt_fac]; exact (pix_n (f0 p rfl)).trans (pix_y hw)) g2⟩
    · obtain ⟨g, g0, g1, g2⟩ := m_needs (L := L) (xs := xs) (d := d) hR ht hn hc (sx_fac 2 (by decide))
      refine ⟨_, g, v_X11_facing (d := d + 10) (s_X11_facing_0_0 (d := d + 3) V0 rfl V1 rfl g0), g1, ?_⟩
      cases r with
      | error e => exact ⟨g2, trivial⟩
      | ok p =>
        have a0 := f0 p rfl
        have a1 := f1 p rfl
        have e : ptk n B (.ok p) sFac = if tw n B p (wFac.getD 2 []) then some 2 else none := by
          rw [pt_fac]
          exact (pix_n (f0 p rfl)).trans ((pix_n (f1 p rfl)).trans (rfl))
        show MX n B g (er2 (pch n B sFac p)) ∧ ev1 _ (pch n B sFac p)
        have g2' : MX n B g (pw n B (wFac.getD 2 []) p) := g2
        unfold pch
        unfold pw at g2'
        rw [e]
        cases hq : tw n B p (wFac.getD 2 []) with
        | true => rw [hq] at g2'; exact ⟨g2', rfl⟩
        | false => rw [hq] at g2'; exact ⟨g2', trivial⟩
theorem m_hemming {h : xm_H} {t n : Nat} {B : Nat → Nat} {r : Except (Nat × Nat) Nat} (hR : h.2.2 = xm_R0 t) (ht : t = 5 ∨ t = 13) (hn : n ≤ 1000) (hc : MX n B h r) : ∃ v g, xm_V (xm_X0 L xs) xm_P (d + 11) 214 [.ref 82] h (some (.int v)) g ∧ MF h g ∧ MX n B g (er2 (ebn r (pch n B sHem))) ∧ ev1 v (ebn r (pch n B sHem)) := by
  have nf : ∀ {p W}, tw n B p W = false → ¬ tw n B p W = true := fun e => by rw [e]; decide
  rcases m_try (L := L) (xs := xs) (d := d + 1) hR ht hn hc sx_h0 with ⟨g, V0, g1, g2, p, rfl, hw⟩ | ⟨V0, f0⟩
  · exact ⟨_, g, v_X11_hemming (d := d + 10) (s_X11_hemming_0_5 (d := d + 3) V0 (by decide)), g1, pch_hit (i := 0) (by rw [pt_hem]; exact pix_y hw) g2⟩
  · rcases m_try (L := L) (xs := xs) (d := d + 1) hR ht hn hc sx_h1 with ⟨g, V1, g1, g2, p, rfl, hw⟩ | ⟨V1, f1⟩
    · exact ⟨_, g, v_X11_hemming (d := d + 10) (s_X11_hemming_0_4 (d := d + 3) V0 rfl V1 (by decide)), g1, pch_hit (i := 1) (by rw [pt_hem]; exact (pix_n (f0 p rfl)).trans (pix_y hw)) g2⟩
    · rcases m_try (L := L) (xs := xs) (d := d + 1) hR ht hn hc (sx_h2 0 (by decide)) with ⟨g, V2, g1, g2, p, rfl, hw⟩ | ⟨V2, f2⟩
      · exact ⟨_, g, v_X11_hemming (d := d + 10) (s_X11_hemming_0_3 (d := d + 3) V0 rfl V1 rfl V2 (by decide)), g1, pch_hit (i := 2) (by rw [pt_hem]; exact (pix_n (f0 p rfl)).trans ((pix_n (f1 p rfl)).trans (pix_y hw))) g2⟩
      · rcases m_try (L := L) (xs := xs) (d := d + 1) hR ht hn hc (sx_h2 1 (by decide)) with ⟨g, V3, g1, g2, p, rfl, hw⟩ | ⟨V3, f3⟩
        · exact ⟨_, g, v_X11_hemming (d := d + 10) (s_X11_hemming_0_2 (d := d + 3) V0 rfl V1 rfl V2 rfl V3 (by decide)), g1, pch_hit (i := 3) (by rw [pt_hem]; exact (pix_n (f0 p rfl)).trans ((pix_n (f1 p rfl)).trans ((pix_n (f2 p rfl)).trans (pix_y hw)))) g2⟩
        · rcases m_try (L := L) (xs := xs) (d := d + 1) hR ht hn hc (sx_h2 2 (by decide)) with ⟨g, V4, g1, g2, p, rfl, hw⟩ | ⟨V4, f4⟩
          · exact ⟨_, g, v_X11_hemming (d := d + 10) (s_X11_hemming_0_1 (d := d + 3) V0 rfl V1 rfl V2 rfl V3 rfl V4 (by decide)), g1, pch_hit (i := 4) (by rw [pt_hem]; exact (pix_n (f0 p rfl)).trans ((pix_n (f1 p rfl)).trans ((pix_n (f2 p rfl)).trans ((pix_n (f3 p rfl)).trans (pix_y hw))))) g2⟩
          · obtain ⟨g, g0, g1, g2⟩ := m_needs (L := L) (xs := xs) (d := d) hR ht hn hc (sx_h2 3 (by decide))
            refine ⟨_, g, v_X11_hemming (d := d + 10) (s_X11_hemming_0_0 (d := d + 3) V0 rfl V1 rfl V2 rfl V3 rfl V4 rfl g0), g1, ?_⟩
            cases r with
            | error e => exact ⟨g2, trivial⟩
            | ok p =>
              have e : ptk n B (.ok p) sHem = if tw n B p (wHem.getD 5 []) then some 5 else none := by
                rw [pt_hem]
                exact (pix_n (f0 p rfl)).trans ((pix_n (f1 p rfl)).trans ((pix_n (f2 p rfl)).trans ((pix_n (f3 p rfl)).trans ((pix_n (f4 p rfl)).trans (rfl)))))
              show MX n B g (er2 (pch n B sHem p)) ∧ ev1 _ (pch n B sHem p)
              have g2' : MX n B g (pw n B (wHem.getD 5 []) p) := g2
              unfold pch
              unfold pw at g2'
              rw [e]
              cases hq : tw n B p (wHem.getD 5 []) with
              | true => rw [hq] at g2'; exact ⟨g2', rfl⟩
              | false => rw [hq] at g2'; exact ⟨g2', trivial⟩
theorem m_moving {h : xm_H} {t n : Nat} {B : Nat → Nat} {r : Except (Nat × Nat) Nat} (hR : h.2.2 = xm_R0 t) (ht : t = 5 ∨ t = 13) (hn : n ≤ 1000) (hc : MX n B h r) : ∃ v, xm_V (xm_X0 L xs) xm_P (d + 11) 209 [.ref 82] h (some (.int v)) h ∧ v = (match ptk n B r sMov with | some i => nI i | none => (-1 : Int32)) := by
  have V := fun i hi => m_is (L := L) (xs := xs) (d := d + 2) hR ht hn hc (sx_mov i hi)
  have none_case : (∀ k, k < 6 → rtw n B r (wMov.getD k []) = false) → xm_V (xm_X0 L xs) xm_P (d + 11) 209 [.ref 82] h (some (.int (-1))) h := by
    intro hf
    have W := fun i hi => (by have q := V i hi; rw [hf i hi] at q; exact q : xm_V (xm_X0 L xs) xm_P (d + 10) 204 [.ref 82, .ref (1042 + 2 * i)] h (some (.int (b2i false))) h)
    exact v_X11_moving (d := d + 10) (s_X11_moving_0_0 (d := d + 3) (W 0 (by decide)) rfl (W 1 (by decide)) rfl (W 2 (by decide)) rfl (W 3 (by decide)) rfl (W 4 (by decide)) rfl (W 5 (by decide)) rfl)
  cases r with
  | error e => exact ⟨_, none_case (fun _ _ => rfl), by rw [ptk_e]⟩
  | ok p =>
    cases hm : ptk n B (.ok p) sMov with
    | none => exact ⟨_, none_case (fun k hk => mov_n hm k hk), rfl⟩
    | some i =>
      obtain ⟨hi, hb, -⟩ := mov_b hm
      have W := fun k hk => (by have q := V k hk; rw [show rtw n B (.ok p) (wMov.getD k []) = decide (k = i) from hb k hk] at q; exact q : xm_V (xm_X0 L xs) xm_P (d + 10) 204 [.ref 82, .ref (1042 + 2 * k)] h (some (.int (b2i (decide (k = i))))) h)
      have hi6 : i = 0 ∨ i = 1 ∨ i = 2 ∨ i = 3 ∨ i = 4 ∨ i = 5 := by omega
      refine ⟨nI i, ?_, rfl⟩
      rcases hi6 with rfl | rfl | rfl | rfl | rfl | rfl
      · exact v_X11_moving (d := d + 10) (s_X11_moving_0_6 (d := d + 3) (W 0 (by decide)) (by decide))
      · exact v_X11_moving (d := d + 10) (s_X11_moving_0_5 (d := d + 3) (W 0 (by decide)) (by decide) (W 1 (by decide)) (by decide))
      · exact v_X11_moving (d := d + 10) (s_X11_moving_0_4 (d := d + 3) (W 0 (by decide)) (by decide) (W 1 (by decide)) (by decide) (W 2 (by decide)) (by decide))
      · exact v_X11_moving (d := d + 10) (s_X11_moving_0_3 (d := d + 3) (W 0 (by decide)) (by decide) (W 1 (by decide)) (by decide) (W 2 (by decide)) (by decide) (W 3 (by decide)) (by decide))
      · exact v_X11_moving (d := d + 10) (s_X11_moving_0_2 (d := d + 3) (W 0 (by decide)) (by decide) (W 1 (by decide)) (by decide) (W 2 (by decide)) (by decide) (W 3 (by decide)) (by decide) (W 4 (by decide)) (by decide))
      · exact v_X11_moving (d := d + 10) (s_X11_moving_0_1 (d := d + 3) (W 0 (by decide)) (by decide) (W 1 (by decide)) (by decide) (W 2 (by decide)) (by decide) (W 3 (by decide)) (by decide) (W 4 (by decide)) (by decide) (W 5 (by decide)) (by decide))
end OPS
