/-! Pairs of calls that search: fewest, brief, alone. -/
theorem PB.cg {nx nx' : Nat → St → Option St} {s0 : St} {i k N : Nat} {Q : Nat → St} {par mv dep : Nat → Nat} (e : ∀ k s, k < 10 → nx' k s = nx k s) (h : PB nx s0 i k N Q par mv dep) : PB nx' s0 i k N Q par mv dep := by
  obtain ⟨h1, h2, h3, h4, h5, h6, h7, h8⟩ := h
  refine ⟨h1, h2, h3, h4, fun j a b => ?_, h6, fun a b s' ha hb hl ht => h7 a b s' ha hb hl (by rw [← e b _ hb]; exact ht), h8⟩
  obtain ⟨p1, p2, p3, p4⟩ := h5 j a b
  exact ⟨p1, p2, by rw [e _ _ p2]; exact p3, p4⟩
theorem FC.cg {nx nx' : Nat → St → Option St} {s0 : St} {N : Nat} {Q : Nat → St} {par mv dep : Nat → Nat} {f : Nat → Nat → Int32} (e : ∀ k s, k < 10 → nx' k s = nx k s) (h : FC nx s0 N Q par mv dep f) : FC nx' s0 N Q par mv dep f := by
  obtain ⟨s1, s2, s3, s4, s5, s6, s7⟩ := h
  exact ⟨s1.cg e, s2, s3, s4, s5, s6, fun a b ha hb => by rw [e b _ hb]; exact s7 a b ha hb⟩
theorem SC.fr {nx : Nat → St → Option St} {A B i k N P : Nat} {s0 : St} {Q : Nat → St} {par mv dep : Nat → Nat} {D : Nat → Nat × Nat} {f f' : Nat → Nat → Int32} (h : SC nx A B s0 i k N P Q par mv dep D f) (e : ∀ q, 61 ≤ q → q ≤ 68 → f' q = f q) : SC nx A B s0 i k N P Q par mv dep D f' := by
  obtain ⟨s1, s2, s3, s4, s5, s6, s7, s8, s9, s10⟩ := h
  unfold SC
  rw [e 61 (by omega) (by omega), e 62 (by omega) (by omega), e 63 (by omega) (by omega), e 64 (by omega) (by omega), e 65 (by omega) (by omega), e 66 (by omega) (by omega), e 67 (by omega) (by omega), e 68 (by omega) (by omega)]
  exact ⟨s1, s2, s3, s4, s5, s6, s7, s8, s9, s10⟩
theorem SRCH.fr {f f' : Nat → Nat → Int32} (h : SRCH f) (e : ∀ q, 61 ≤ q → q ≤ 68 → f' q = f q) : SRCH f' := by
  rcases h with ⟨h1, h2⟩ | ⟨al, sp, ar, s0, N, P, Q, par, mv, dep, D, k1, k2, k3, k4, A, B, k5, k6, k7, k8, k9, k10⟩
  · exact Or.inl ⟨by rw [e 61 (by omega) (by omega)]; exact h1, fun x hx => by rw [e 62 (by omega) (by omega)]; exact h2 x hx⟩
  · exact Or.inr ⟨al, sp, ar, s0, N, P, Q, par, mv, dep, D, k1, k2, k3, k4, A, B, k5, k6, by rw [e 61 (by omega) (by omega)]; exact k7, by rw [e 61 (by omega) (by omega)]; exact k8, by rw [e 61 (by omega) (by omega)]; exact k9, k10.fr e⟩
/-- what holds of the search between calls -/
def SIs (F : Nat → Nat → Int32) (_ : Nat → Nat → Int64) : Prop := SRCH (fun q => F (q - 61))
theorem Rel.srch {h : xm_H} (hr : Rel SIs h) : SRCH h.1 := by
  obtain ⟨t, -, -, -, -, -, -, -, -, -, hs⟩ := hr
  refine SRCH.fr hs (fun q h1 h2 => ?_)
  show h.1 q = if q - 61 < 12 then h.1 (61 + (q - 61)) else fun _ => 0
  rw [if_pos (by omega), show 61 + (q - 61) = q by omega]
theorem Rel.put {h g : xm_H} (hr : Rel SIs h) (h2 : g.2.2 = h.2.2) (row : ∀ q, (q < 61 ∨ 72 < q) → g.1 q = h.1 q) (rol : ∀ q, (q < 61 ∨ 72 < q) → g.2.1 q = h.2.1 q) (hs : SRCH g.1) : Rel SIs g := by
  have hr0 := hr
  obtain ⟨t, ht, hR, ⟨n, hn, h1, h5, hb⟩, hf, hw, hli, hwk, him, hro, hsi⟩ := hr
  refine ⟨t, ht, h2.trans hR, ⟨n, hn, ?_, ?_, fun j hj => ?_⟩, ⟨?_, ?_⟩, ?_, ?_, ?_, fun k hk => ?_, fun s hs => ?_, ?_⟩
  · rw [row 1 (by omega)]; exact h1
  · rw [row 82 (by omega)]; exact h5
  · rw [row 2 (by omega), row 86 (by omega)]; exact hb j hj
  · rw [row 1 (by omega), row 82 (by omega)]; exact hf.1
  · rw [row 1 (by omega), row 82 (by omega)]; exact hf.2
  · rw [row 83 (by omega)]; exact hw
  · rw [row 83 (by omega), row t (by omega), row (t + 1) (by omega), row (t + 2) (by omega), row (t + 3) (by omega), row (t + 4) (by omega), row (t + 5) (by omega), row (t + 6) (by omega), row (t + 7) (by omega)]
    exact hli
  · rw [row 83 (by omega), row 3 (by omega), row 4 (by omega)]; exact hwk
  · have h6 := him k hk
    unfold rl_im at h6 ⊢
    rw [row 85 (by omega), row 84 (by omega)]
    simp only [row (22 + 10 * k + 0) (by omega), row (22 + 10 * k + 1) (by omega), row (22 + 10 * k + 2) (by omega), row (22 + 10 * k + 3) (by omega), row (22 + 10 * k + 4) (by omega), row (22 + 10 * k + 5) (by omega), row (22 + 10 * k + 6) (by omega), row (22 + 10 * k + 7) (by omega), row (22 + 10 * k + 8) (by omega), row (22 + 10 * k + 9) (by omega)]
    exact h6
  · have h6 := hro s hs
    unfold rl_row at h6 ⊢
    rw [row (53 + 2 * s) (by omega), row 99 (by omega), row 100 (by omega), rol (54 + 2 * s) (by omega), rol 101 (by omega)]
    exact h6
  · refine SRCH.fr hs (fun q h1 h2 => ?_)
    show (if q - 61 < 12 then g.1 (61 + (q - 61)) else fun _ => 0) = g.1 q
    rw [if_pos (by omega), show 61 + (q - 61) = q by omega]
theorem rp_uS {w : Nat → Int32} {A B : Nat} (hA : 1 ≤ A ∧ A ≤ 48) (hB : 1 ≤ B ∧ B ≤ 48) (e0 : w 0 = nI A) (e1 : w 1 = nI B) : ∀ n, (∀ j, j < n → rl_in (w (50 + j)) 0 12) → ∀ s, rp w n = some s → st_K s ∧ uS A B s
  | 0, _, s, e => by
    simp only [rp, e0, e1, nI_clamp (show A < 2 ^ 31 by omega), nI_clamp (show B < 2 ^ 31 by omega), Option.some.injEq] at e
    subst e
    exact ⟨⟨hA, hB, by show (0 : Nat) < 5; omega, by show (0 : Nat) < 2; omega, by show (2 : Nat) < 5; omega⟩, uS_0 hA hB⟩
  | n + 1, hi, s, e => by
    cases hq : rp w n with
    | none => simp only [rp, hq, Option.bind] at e; cases e
    | some s1 =>
      have hk := rp_uS hA hB e0 e1 n (fun j h => hi j (by omega)) s1 hq
      simp only [rp, hq, Option.bind] at e
      obtain ⟨a, -, ha, ea⟩ := hi n (by omega)
      rw [ea, nI_clamp (by omega)] at e
      exact ⟨st_do_K hk.1 e ha, uS_do (by omega) (by omega) hk.1 hk.2 ha e⟩
/-- what is told, as the searches want it -/
def NOW (h : xm_H) (cn : Nat) (s : St) : Prop := cn ≤ 60 ∧ h.1 83 23 = nI cn ∧ (∀ j, j < cn → rl_in (h.1 83 (50 + j)) 0 12) ∧ rl_in (h.1 83 0) 1 48 ∧ rl_in (h.1 83 1) 1 48 ∧ rl_in (h.1 83 3) 1 60 ∧ rp (h.1 83) cn = some s ∧ (∀ k, k < 6 → rl_in (h.1 83 (5 + k)) 1 99) ∧ rl_in (h.1 83 4) 1 60
theorem NOW.fr {h g : xm_H} {cn : Nat} {s : St} (a : NOW h cn s) (e : g.1 83 = h.1 83) : NOW g cn s := by
  unfold NOW
  rw [e]
  exact a
theorem NOW.uS {h : xm_H} {cn : Nat} {s : St} (a : NOW h cn s) : ∃ A B, A < 49 ∧ B < 49 ∧ st_K s ∧ uS A B s ∧ uS A B (A, B, 0, 0, 2) ∧ st_K (A, B, 0, 0, 2) ∧ h.1 83 0 = nI A ∧ h.1 83 1 = nI B := by
  obtain ⟨a1, a2, a3, ⟨A, b1, b2, b3⟩, ⟨B, b4, b5, b6⟩, -, a7, -⟩ := a
  have q := rp_uS ⟨b1, b2⟩ ⟨b4, b5⟩ b3 b6 cn a3 s a7
  exact ⟨A, B, by omega, by omega, q.1, q.2, uS_0 ⟨b1, b2⟩ ⟨b4, b5⟩, ⟨⟨b1, b2⟩, ⟨b4, b5⟩, by show (0 : Nat) < 5; omega, by show (0 : Nat) < 2; omega, by show (2 : Nat) < 5; omega⟩, b3, b6⟩
theorem met_fr {g h : xm_H} {t : Nat} {x : Int32} (e : g.1 (t + 1) = h.1 (t + 1)) : F_X8_isMetBy g t x = F_X8_isMetBy h t x := by
  unfold F_X8_isMetBy
  rw [e]
theorem wish_of {h : xm_H} {t : Nat} (hw : rl_wf (h.1 83)) (hli : rl_lin (h.1 t) (h.1 (t + 1)) (h.1 (t + 2)) (h.1 (t + 3)) (h.1 (t + 4)) (h.1 (t + 5)) (h.1 (t + 6)) (h.1 (t + 7)) (h.1 83)) : (F_X10_hasWish h t = 0 ∧ F_X11_canWish h t = 0) ∨ (¬ F_X10_hasWish h t = 0 ∧ ¬ F_X11_canWish h t = 0 ∧ ¬ h.1 83 22 = 0 ∧ ∀ s, st_K s → F_X8_isMetBy h t (st_P s) = if wsh (h.1 83) s = true then 1 else 0) := by
  have h13 := hw.2.2.2.2.2.1
  have hl0 := hli.2.2.2.2.2.2.2.2.2.2.2.2.1
  have hl1 := hli.2.2.2.2.2.2.2.2.2.2.2.2.2.1
  rcases h13 with z | ⟨z, ⟨n, n1, n2, n3⟩, -, -, -⟩
  · left
    constructor
    · unfold F_X10_hasWish F_X8_isMade
      rw [hl0 z, if_pos (by decide)]
    · unfold F_X11_canWish F_X11_isWished
      rw [z, if_pos (show (0 : Int32) ≤ 0 by decide)]
      split <;> rfl
  · right
    obtain ⟨f0, f1, f2, f3⟩ := hl1 z
    have hn : ¬ h.1 83 22 = 0 := fun e => by
      have := hw.2.1 e 13 (by omega)
      rw [z] at this
      exact one_ne0 this
    refine ⟨?_, ?_, hn, fun s hK => met_x hK f0 f1 f2 f3⟩
    · unfold F_X10_hasWish F_X8_isMade
      rw [f0, n3, if_neg (nI_nle (by omega) (by omega))]
      exact one_ne0
    · unfold F_X11_canWish F_X11_isWished
      rw [(ln_1 (t := t) hli.1 hw.1 hn).2, z, if_neg one_ne0, if_neg (show ¬ (1 : Int32) ≤ 0 by decide), if_neg one_ne0]
      exact one_ne0
section OPS
variable {L : Nat} {xs : Nat → Int32} {d : Nat} {t : Nat}
theorem now_of {h : xm_H} (hw : rl_wf (h.1 83)) (hli : rl_lin (h.1 t) (h.1 (t + 1)) (h.1 (t + 2)) (h.1 (t + 3)) (h.1 (t + 4)) (h.1 (t + 5)) (h.1 (t + 6)) (h.1 (t + 7)) (h.1 83)) (hwk : rl_wk (h.1 3) (h.1 4) (h.1 83)) (hn : ¬ h.1 83 22 = 0) : ∃ cn s rm ar, NOW h cn s ∧ h.1 3 3 = st_P s ∧ rm ≤ 60 ∧ h.1 83 3 = nI rm ∧ h.1 t 4 = nI rm ∧ ar ≤ 60 ∧ h.1 83 4 = nI ar ∧ h.1 t 5 = nI ar ∧ (∀ k, k < 6 → h.1 (t + 2) k = h.1 83 (5 + k)) := by
  obtain ⟨c, s, rm, hc, e23, hact, h0, h1, h3, hs, hK, er, hrm, e4, h14, e2, e3, esec, hac⟩ := told_of hw hli hwk hn
  obtain ⟨-, -, -, -, h4, h5⟩ := hw.2.2.1 hn
  obtain ⟨ar, a1, a2, a3⟩ := h4
  exact ⟨c, s, rm, ar, ⟨hc, e23, hact, h0, h1, h3, hs, h5, ⟨ar, a1, a2, a3⟩⟩, e3, hrm, er, e4, a2, a3, hli.2.2.2.2.2.1.trans a3, h14⟩
theorem x_explore {h : xm_H} {al sp ar A B : Nat} {s0 : St} (hr : Rel SIs h) (hR : h.2.2 = xm_R0 t) (ht : t = 5 ∨ t = 13) (hA : A < 49) (hB : B < 49) (hK0 : st_K s0) (hU : uS A B s0) (hal : al < 1024) (hsp : sp ≤ 60) (har : ar ≤ 60) : ∃ (g : xm_H) (N P : Nat) (Q : Nat → St) (par mv dep : Nat → Nat) (D : Nat → Nat × Nat), xm_V (xm_X0 L xs) xm_P (d + 11) 81 [.ref 61, .int (st_P s0), .int (nI al), .int (nI sp), .int (nI ar)] h none g ∧ g.2 = h.2 ∧ (∀ q, (q < 61 ∨ 68 < q) → g.1 q = h.1 q) ∧ FC (nx10 al sp ar) s0 N Q par mv dep g.1 ∧ Rel SIs g ∧ FND al sp ar s0 N P Q par mv dep D g.1 := by
  obtain ⟨g, N, P, Q, par, mv, dep, D, V, g2, gq, hF⟩ := v_explore (L := L) (xs := xs) (d := d) hR ht hA hB hK0 hU hal hsp har hr.srch
  exact ⟨g, N, P, Q, par, mv, dep, D, V, g2, gq, (hF.fc hK0).cg (fun k s hk => nx10_e hk), hr.put (by rw [g2]) (fun q hq => gq q (by omega)) (fun q _ => by rw [g2]) (Or.inr ⟨al, sp, ar, s0, N, P, Q, par, mv, dep, D, hal, hsp, har, hK0, hF⟩), hF⟩
/-- the search, then the first that is wished: what is nearest -/
theorem v_fewIn {h : xm_H} {R cn : Nat} {s : St} {W : St → Bool} (hr : Rel SIs h) (hR : h.2.2 = xm_R0 t) (ht : t = 5 ∨ t = 13) (hN : NOW h cn s) (e3 : h.1 3 3 = st_P s) (hR60 : R ≤ 60) (hW : ∀ s, st_K s → F_X8_isMetBy h t (st_P s) = if W s = true then 1 else 0) : ∃ (g : xm_H) (r : Int32), xm_V (xm_X0 L xs) xm_P (d + 12) 80 [.ref 0, .int (nI R)] h (some (.int r)) g ∧ g.2 = h.2 ∧ (∀ q, (q < 61 ∨ 68 < q) → g.1 q = h.1 q) ∧ Rel SIs g ∧ Near (nx10 1023 R 60) (fun _ => 1) (fun s => W s = true) s r := by
  obtain ⟨A, B, hA, hB, hK, hU, -⟩ := hN.uS
  obtain ⟨g, N, P, Q, par, mv, dep, D, V, g2, gq, hF, hrg, -⟩ := x_explore (L := L) (xs := xs) (d := d) hr hR ht hA hB hK hU (al := 1023) (by decide) hR60 (ar := 60) (Nat.le_refl _)
  have gR : g.2.2 = xm_R0 t := by rw [g2]; exact hR
  have V0 : xm_V (xm_X0 L xs) xm_P (d + 11) 81 [.ref 61, .int (h.1 3 3), .int (1023 : Int32), .int (nI R), .int (60 : Int32)] h none g := by rw [e3]; exact V
  have hN640 := hF.2.1
  rcases v_first (L := L) (xs := xs) (d := d + 3) (W := W) gR ht hF (fun s hs => by rw [met_fr (gq (t + 1) (by omega))]; exact hW s hs) with ⟨j, hj, hjw, hno, W1⟩ | ⟨hno, W1⟩
  · have K := v_X10_fewestIn (d := d + 11) (s_X10_fewestIn_0_0 (L := L) (xs := xs) (d := d + 4) hR ht V0 gR W1 gR)
    rw [depth_y hF hj] at K
    exact ⟨g, nI (dep j), K, g2, gq, hrg, hF.1.near (W := fun s => W s = true) (by omega) hj hjw hno⟩
  · have K := v_X10_fewestIn (d := d + 11) (s_X10_fewestIn_0_0 (L := L) (xs := xs) (d := d + 4) hR ht V0 gR W1 gR)
    rw [depth_n] at K
    exact ⟨g, -1, K, g2, gq, hrg, hF.1.nearN hno⟩
theorem r_search {h : xm_H} {R cn : Nat} {s : St} {b : Bool} (hR : h.2.2 = xm_R0 t) (ht : t = 5 ∨ t = 13) (hN : NOW h cn s) (hR60 : R ≤ 60) : ∃ (g : xm_H) (r : Int32) (N : Nat) (Q : Nat → St) (par mv dep F : Nat → Nat), xm_V (xm_X0 L xs) xm_P (d + 10) 260 [.ref 82, .int (nI R), .int (0 : Int32), .int (-1 : Int32), .int (bJ b)] h (some (.int r)) g ∧ srF g h ∧ MD t 10 (nx10 1023 R 60) (cs (h.1 83) b) g ∧ SR (nx10 1023 R 60) (cs (h.1 83) b) s N Q par mv dep F g.1 ∧ Near (nx10 1023 R 60) (cs (h.1 83) b) (fun s => wsh (h.1 83) s = true) s r := by
  obtain ⟨a1, a2, a3, a4, a5, a6, a7, a8, a9⟩ := hN
  have hM := MD_moves (h := h) (t := t) (b := b) hR60 a8
  obtain ⟨g, r, N, Q, par, mv, dep, F, V, b1, b2, b3, b4⟩ := v_searches (L := L) (xs := xs) (d := d) hR ht a1 a2 a3 a4 a5 a6 a7 hM (Or.inl rfl) (by cases b; exact Or.inl rfl; exact Or.inr rfl)
  exact ⟨g, r, N, Q, par, mv, dep, F, V, b1, hM.go b2, b3, b4⟩
theorem r_alone {h : xm_H} {cn ar : Nat} {s : St} {l1 : Int32} (hR : h.2.2 = xm_R0 t) (ht : t = 5 ∨ t = 13) (hN : NOW h cn s) (har : ar ≤ 60) (e4 : h.1 83 4 = nI ar) : ∃ (g : xm_H) (r : Int32) (N : Nat) (Q : Nat → St) (par mv dep F : Nat → Nat), xm_V (xm_X0 L xs) xm_P (d + 10) 260 [.ref 82, .int l1, .int (1 : Int32), .int (-1 : Int32), .int (0 : Int32)] h (some (.int r)) g ∧ srF g h ∧ MD t 10 (nx10 975 60 ar) (cs (h.1 83) false) g ∧ SR (nx10 975 60 ar) (cs (h.1 83) false) s N Q par mv dep F g.1 ∧ Near (nx10 975 60 ar) (cs (h.1 83) false) (fun s => wsh (h.1 83) s = true) s r := by
  obtain ⟨a1, a2, a3, a4, a5, a6, a7, a8, a9⟩ := hN
  have hM := MD_alone (h := h) (t := t) (l1 := l1) har e4 a8
  obtain ⟨g, r, N, Q, par, mv, dep, F, V, b1, b2, b3, b4⟩ := v_searches (L := L) (xs := xs) (d := d) hR ht a1 a2 a3 a4 a5 a6 a7 hM (Or.inr rfl) (Or.inl rfl)
  exact ⟨g, r, N, Q, par, mv, dep, F, V, b1, hM.go b2, b3, b4⟩
theorem op_fewest : xm_opi (xm_X0 L xs) (d + 20) (Rel SIs) 77 257 [] := by
  intro h hr
  obtain ⟨t, ht, hR, hw, hli, hwk⟩ := hr.opn
  rcases wish_of hw hli with ⟨q1, q2⟩ | ⟨q1, q2, hn, hW⟩
  · exact ⟨-2, h, h, v_X10_fewest (d := d + 19) (s_X10_fewest_0_0 (d := d + 12) hR ht q1), v_X11_fewest (d := d + 19) (s_X11_fewest_0_0 (d := d + 12) hR ht q2), hr⟩
  · obtain ⟨cn, s, rm, ar, hN, e3, hrm, er, e4, -⟩ := now_of hw hli hwk hn
    obtain ⟨g, r, V, g2, gq, hrg, hnr⟩ := v_fewIn (L := L) (xs := xs) (d := d + 7) hr hR ht hN e3 hrm hW
    have gR : g.2.2 = xm_R0 t := by rw [g2]; exact hR
    have e83 : g.1 83 = h.1 83 := gq 83 (by omega)
    obtain ⟨g', r', N, Q, par, mv, dep, F, V', b1, -, -, b4⟩ := r_search (L := L) (xs := xs) (d := d + 9) (b := false) gR ht (hN.fr e83) hrm
    rw [e83, cs_f] at b4
    have e := hnr.uniq b4
    subst e
    have c2 : ¬ F_X11_canWish g t = 0 := by
      unfold F_X11_canWish F_X11_isLinen F_X11_isWished at q2 ⊢
      rw [e83]
      exact q2
    refine ⟨r, g, g', v_X10_fewest (d := d + 19) (s_X10_fewest_0_1 (d := d + 12) hR ht q1 (by rw [e4]; exact V)), v_X11_fewest (d := d + 19) (s_X11_fewest_0_1 (d := d + 12) gR ht c2 (by rw [e83, er]; exact V')), hrg.srF b1⟩
theorem op_brief (a : Int32) : xm_opi (xm_X0 L xs) (d + 20) (Rel SIs) 103 276 [.int a] := by
  intro h hr
  obtain ⟨t, ht, hR, hw, hli, hwk⟩ := hr.opn
  rcases wish_of hw hli with ⟨q1, q2⟩ | ⟨q1, q2, hn, hW⟩
  · exact ⟨-2, h, h, v_X10_brief (d := d + 19) (s_X10_brief_0_0 (d := d + 12) hR ht q1), v_X11_brief (d := d + 19) (s_X11_brief_0_0 (d := d + 12) hR ht q2), hr⟩
  · by_cases hb : nb a 1 60
    · obtain ⟨R, hR1, hR60, rfl⟩ := hb
      obtain ⟨cn, s, rm, ar, hN, e3, hrm, er, e4, -⟩ := now_of hw hli hwk hn
      obtain ⟨g, r, V, g2, gq, hrg, hnr⟩ := v_fewIn (L := L) (xs := xs) (d := d + 7) hr hR ht hN e3 hR60 hW
      have gR : g.2.2 = xm_R0 t := by rw [g2]; exact hR
      have e83 : g.1 83 = h.1 83 := gq 83 (by omega)
      obtain ⟨g', r', N, Q, par, mv, dep, F, V', b1, -, -, b4⟩ := r_search (L := L) (xs := xs) (d := d + 9) (b := false) gR ht (hN.fr e83) hR60
      rw [e83, cs_f] at b4
      have e := hnr.uniq b4
      subst e
      have c2 : ¬ F_X11_canWish g t = 0 := by
        unfold F_X11_canWish F_X11_isLinen F_X11_isWished at q2 ⊢
        rw [e83]
        exact q2
      exact ⟨r, g, g', v_X10_brief (d := d + 19) (s_X10_brief_0_2 (d := d + 12) hR ht q1 (nI_nlt (b := 1) hR1 (by omega)) (nI_le (b := 60) hR60 (by decide)) V), v_X11_brief (d := d + 19) (s_X11_brief_0_2 (d := d + 12) gR ht c2 (by rw [(in_1_60 (nI R)).1 ⟨R, hR1, hR60, rfl⟩]; exact one_ne0) V'), hrg.srF b1⟩
    · have VM := v_X11_brief (d := d + 19) (s_X11_brief_0_1 (L := L) (xs := xs) (d := d + 12) hR ht q2 ((in_1_60 a).2 hb))
      by_cases h1 : a < (1 : Int32)
      · exact ⟨-2, h, h, v_X10_brief (d := d + 19) (s_X10_brief_0_1 (d := d + 12) hR ht q1 h1), VM, hr⟩
      · refine ⟨-2, h, h, v_X10_brief (d := d + 19) (s_X10_brief_0_3 (d := d + 12) hR ht q1 h1 (fun h2 => hb ?_)), VM, hr⟩
        have h00 : ¬ a < 0 := fun q => h1 ((ng_lt q (k := 1) (by omega)).mpr trivial)
        obtain ⟨j, hj, rfl⟩ := nI_of h00
        refine ⟨j, ?_, ?_, rfl⟩
        · by_cases z : 1 ≤ j
          · exact z
          · exact absurd (nI_lt (a := j) (b := 1) (by omega) (by omega)) h1
        · exact (nI_leI hj (by decide)).mp h2
theorem op_alone : xm_opi (xm_X0 L xs) (d + 20) (Rel SIs) 100 274 [] := by
  intro h hr
  obtain ⟨t, ht, hR, hw, hli, hwk⟩ := hr.opn
  rcases wish_of hw hli with ⟨q1, q2⟩ | ⟨q1, q2, hn, hW⟩
  · exact ⟨-2, h, h, v_X10_alone (d := d + 19) (s_X10_alone_0_0 (d := d + 12) hR ht q1), v_X11_alone (d := d + 19) (s_X11_alone_0_0 (d := d + 12) hR ht q2), hr⟩
  · obtain ⟨cn, s, rm, ar, hN, e3, hrm, er, e4, har, ea, ea5, -⟩ := now_of hw hli hwk hn
    obtain ⟨A, B, hA, hB, hK, hU, -⟩ := hN.uS
    obtain ⟨g, N, P, Q, par, mv, dep, D, V, g2, gq, hF, hrg, -⟩ := x_explore (L := L) (xs := xs) (d := d + 7) hr hR ht hA hB hK hU (al := 975) (by decide) (sp := 60) (Nat.le_refl _) har
    have gR : g.2.2 = xm_R0 t := by rw [g2]; exact hR
    have e83 : g.1 83 = h.1 83 := gq 83 (by omega)
    have hN640 := hF.2.1
    have V1 := v_X10_exploreAlone (d := d + 18) (s_X10_exploreAlone_0_0 (L := L) (xs := xs) (d := d + 11) (h := h) hR ht (by rw [e3, ea5]; exact V))
    obtain ⟨g', r', N', Q', par', mv', dep', F', V', b1, -, -, b4⟩ := r_alone (L := L) (xs := xs) (d := d + 9) (l1 := g.1 83 3) gR ht (hN.fr e83) har (by rw [e83]; exact ea)
    rw [e83, cs_f] at b4
    have c2 : ¬ F_X11_canWish g t = 0 := by
      unfold F_X11_canWish F_X11_isLinen F_X11_isWished at q2 ⊢
      rw [e83]
      exact q2
    have VM := v_X11_alone (d := d + 19) (s_X11_alone_0_1 (L := L) (xs := xs) (d := d + 12) gR ht c2 (by rw [e83] at V' ⊢; exact V'))
    rcases v_first (L := L) (xs := xs) (d := d + 11) (W := wsh (h.1 83)) gR ht hF (fun s hs => by rw [met_fr (gq (t + 1) (by omega))]; exact hW s hs) with ⟨j, hj, hjw, hno, W1⟩ | ⟨hno, W1⟩
    · have K := v_X10_alone (d := d + 19) (s_X10_alone_0_1 (L := L) (xs := xs) (d := d + 12) hR ht q1 V1 gR W1 gR)
      rw [depth_y hF hj] at K
      have e := (hF.1.near (W := fun s => wsh (h.1 83) s = true) (by omega) hj hjw hno).uniq b4
      rw [e] at K
      exact ⟨r', g, g', K, VM, hrg.srF b1⟩
    · have K := v_X10_alone (d := d + 19) (s_X10_alone_0_1 (L := L) (xs := xs) (d := d + 12) hR ht q1 V1 gR W1 gR)
      rw [depth_n] at K
      have e := (hF.1.nearN (c := fun _ => 1) (W := fun s => wsh (h.1 83) s = true) hno).uniq b4
      rw [e] at K
      exact ⟨r', g, g', K, VM, hrg.srF b1⟩
end OPS
