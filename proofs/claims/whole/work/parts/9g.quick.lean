/-! step, rail; the least seconds: quickest, quick. -/
theorem SR.to {nx : Nat → St → Option St} {c : Nat → Nat} {s : St} {N N' : Nat} {Q Q' : Nat → St} {par mv dep par' mv' dep' F : Nat → Nat} {f : Nat → Nat → Int32} (h : SR nx c s N' Q' par' mv' dep' F f) (hB : BF nx s N Q par mv dep) : SR nx c s N Q par mv dep F f := by
  obtain ⟨s1, s2, s3, s4, s5⟩ := h
  have e := hB.same s1
  subst e
  have eQ : ∀ j, j < N' → Q' j = Q j := fun j hj => (hB.same1 s1 j hj).2.1
  refine ⟨hB, fun j hj => by rw [← eQ j hj]; exact s2 j hj, ⟨s3.1, fun j hj => by rw [← eQ j hj]; exact s3.2.1 j hj, fun j hj => by rw [← eQ j hj]; exact s3.2.2 j hj⟩, ⟨s4.1, fun a b j ha hb hj q => ?_, fun j hj => by rw [← eQ j hj]; exact s4.2.2 j hj⟩, s5⟩
  rw [← eQ a ha, ← eQ j hj] at q
  exact s4.2.1 a b j ha hb hj q
theorem SR.cgF {nx : Nat → St → Option St} {c : Nat → Nat} {s : St} {N : Nat} {Q : Nat → St} {par mv dep F F' : Nat → Nat} {f : Nat → Nat → Int32} (h : SR nx c s N Q par mv dep F f) (e : ∀ j, j < N → F' j = F j) : SR nx c s N Q par mv dep F' f := by
  obtain ⟨s1, s2, s3, s4, s5⟩ := h
  refine ⟨s1, s2, ⟨s3.1, s3.2.1, fun j hj => by rw [e j hj]; exact s3.2.2 j hj⟩, ⟨by rw [e 0 s1.1]; exact s4.1, fun a b j ha hb hj q => by rw [e a ha, e j hj]; exact s4.2.1 a b j ha hb hj q, fun j hj => by rw [e j hj]; exact s4.2.2 j hj⟩, fun j hj => by rw [e j hj]; exact s5 j hj⟩
theorem Rel.fr90 {SI : (Nat → Nat → Int32) → (Nat → Nat → Int64) → Prop} {g h : xm_H} (hr : Rel SI h) (a : fr90 g h) : Rel SI g :=
  hr.frame (by rw [a.1]) (fun q hq => a.2 q (by unfold rl_cell at hq; omega)) (fun q _ => by rw [a.1]) (fun j _ => by rw [a.2 1 (by decide)]) (fun j _ => by rw [a.2 82 (by decide)])
noncomputable def tB (p : Prop) : Bool := @decide p (Classical.propDecidable p)
theorem tB_t {p : Prop} (h : p) : tB p = true := @decide_eq_true p (Classical.propDecidable p) h
theorem tB_p {p : Prop} (h : tB p = true) : p := @of_decide_eq_true p (Classical.propDecidable p) h
theorem tB_f {p : Prop} (h : ¬ p) : tB p = false := @decide_eq_false p (Classical.propDecidable p) h
section PURE
variable {nx : Nat → St → Option St} {c : Nat → Nat} {s0 : St} {N : Nat} {Q : Nat → St} {par mv dep : Nat → Nat} {W : St → Prop}
def IsT (nx : Nat → St → Option St) (c : Nat → Nat) (W : St → Prop) (Q : Nat → St) (j v : Nat) : Prop := (∃ n w, wk nx c n (Q j) v w ∧ W w) ∧ ∀ n m w, wk nx c n (Q j) m w → W w → v ≤ m
theorem IsT.short (hB : BF nx s0 N Q par mv dep) (hc : ∀ k, k < 10 → 1 ≤ c k) : ∀ v j, j < N → IsT nx c W Q j v → ∃ n w, n ≤ cq (fun x => tB (∃ m, IsT nx c W Q x m ∧ m < v)) N ∧ wk nx c n (Q j) v w ∧ W w := by
  intro v
  induction v using Nat.strongRecOn with
  | _ v ih =>
    intro j hj hT
    obtain ⟨⟨n, w, h1, h2⟩, h3⟩ := hT
    cases n with
    | zero => exact ⟨0, w, Nat.zero_le _, h1, h2⟩
    | succ n =>
      obtain ⟨k, u, b, k1, k2, k3, k4⟩ := h1
      obtain ⟨x, x1, x2, -⟩ := hB.edge hj k1 k2
      rw [← x2] at k2 k3
      have ck := hc k k1
      have tx : IsT nx c W Q x b := ⟨⟨n, w, k3, h2⟩, fun n' m' w' a1 a2 => by
        have := h3 (n' + 1) (c k + m') w' ⟨k, Q x, m', k1, k2, a1, rfl⟩ a2
        omega⟩
      obtain ⟨n', w', y1, y2, y3⟩ := ih b (by omega) x x1 tx
      have lt : cq (fun x => tB (∃ m, IsT nx c W Q x m ∧ m < b)) N < cq (fun x => tB (∃ m, IsT nx c W Q x m ∧ m < v)) N := by
        refine cq_lt N (fun y hy q => ?_) x1 ?_ ?_
        · obtain ⟨m, q1, q2⟩ := tB_p q
          exact tB_t ⟨m, q1, by omega⟩
        · refine tB_f (fun q => ?_)
          obtain ⟨m, ⟨⟨n2, w2, q1, q2⟩, -⟩, q3⟩ := q
          have := tx.2 n2 m w2 q1 q2
          omega
        · exact tB_t ⟨b, tx, by omega⟩
      exact ⟨n' + 1, w', by omega, ⟨k, Q x, b, k1, k2, y2, k4⟩, y3⟩
theorem wk_99 (hc : ∀ k, k < 10 → c k ≤ 99) : ∀ n s m w, wk nx c n s m w → m ≤ n * 99
  | 0, s, m, w, h => by rw [h.1]; omega
  | n + 1, s, m, w, h => by
    obtain ⟨k, u, b, k1, k2, k3, k4⟩ := h
    have := wk_99 hc n u b w k3
    have := hc k k1
    omega
/-- of a bound that holds of short ways: of all -/
theorem CT.of {C : Nat → Nat} (hB : BF nx s0 N Q par mv dep) (hN : N ≤ 640) (hc : ∀ k, k < 10 → 1 ≤ c k ∧ c k ≤ 99) (hs : ∀ j, j < N → C j = 1000000 ∨ (C j < 1000000 ∧ ∃ n w, wk nx c n (Q j) (C j) w ∧ W w)) (hb : ∀ j, j < N → ∀ n, n ≤ 640 → ∀ m w, wk nx c n (Q j) m w → W w → C j ≤ m) : CT nx c W N Q C := by
  have key : ∀ j, j < N → ∀ n m w, wk nx c n (Q j) m w → W w → C j ≤ m ∧ C j < 1000000 := by
    intro j hj n m w h1 h2
    obtain ⟨v, ⟨n0, w0, v1, v2⟩, v3⟩ := least_of (p := fun m => ∃ n w, wk nx c n (Q j) m w ∧ W w) m ⟨n, w, h1, h2⟩
    have hT : IsT nx c W Q j v := ⟨⟨n0, w0, v1, v2⟩, fun n' m' w' a1 a2 => v3 m' ⟨n', w', a1, a2⟩⟩
    obtain ⟨n1, w1, y1, y2, y3⟩ := hT.short hB (fun k hk => (hc k hk).1) v j hj
    have hlt : cq (fun x => tB (∃ m, IsT nx c W Q x m ∧ m < v)) N < N := by
      refine cq_ltn hj (tB_f (fun q => ?_))
      obtain ⟨m', ⟨⟨n2, w2, q1, q2⟩, -⟩, q3⟩ := q
      have := v3 m' ⟨n2, w2, q1, q2⟩
      omega
    have a := hb j hj n1 (by omega) v w1 y2 y3
    have b := wk_99 (fun k hk => (hc k hk).2) n1 _ _ _ y2
    have e := v3 m ⟨n, w, h1, h2⟩
    have : n1 * 99 ≤ 640 * 99 := Nat.mul_le_mul_right 99 (by omega)
    omega
  intro j hj
  rcases hs j hj with h | ⟨h1, h2⟩
  · left
    refine ⟨h, fun n m w a b => ?_⟩
    have := (key j hj n m w a b).2
    omega
  · right
    exact ⟨h1, h2, fun n m w a b => (key j hj n m w a b).1⟩
/-- short ways cost as much -/
def Bn (nx : Nat → St → Option St) (c : Nat → Nat) (W : St → Prop) (Q : Nat → St) (C : Nat → Nat) (p j : Nat) : Prop := ∀ n, n ≤ p → ∀ m w, wk nx c n (Q j) m w → W w → C j ≤ m
def Sd (nx : Nat → St → Option St) (c : Nat → Nat) (W : St → Prop) (N : Nat) (Q : Nat → St) (C : Nat → Nat) : Prop := ∀ j, j < N → C j = 1000000 ∨ (C j < 1000000 ∧ ∃ n w, wk nx c n (Q j) (C j) w ∧ W w)
def fxC (nx : Nat → St → Option St) (c : Nat → Nat) (N : Nat) (Q : Nat → St) (C : Nat → Nat) (j : Nat) : Prop := ∀ k x, k < 10 → x < N → nx k (Q j) = some (Q x) → C j ≤ C x + c k
theorem Bn.all {C : Nat → Nat} (hB : BF nx s0 N Q par mv dep) (h0 : ∀ j, j < N → Bn nx c W Q C 0 j) (hf : ∀ j, j < N → fxC nx c N Q C j) : ∀ p j, j < N → Bn nx c W Q C p j := by
  have key : ∀ n j m w, j < N → wk nx c n (Q j) m w → W w → C j ≤ m := by
    intro n
    induction n with
    | zero => intro j m w hj h1 h2; exact h0 j hj 0 (Nat.le_refl _) m w h1 h2
    | succ n ih =>
      intro j m w hj h1 h2
      obtain ⟨k, u, b, k1, k2, k3, k4⟩ := h1
      obtain ⟨x, x1, x2, -⟩ := hB.edge hj k1 k2
      rw [← x2] at k2 k3
      have a := hf j hj k x k1 x1 k2
      have b := ih x b w x1 k3 h2
      omega
  exact fun p j hj n _ m w => key n j m w hj
theorem Bn.up {C C' : Nat → Nat} {p j : Nat} (hB : BF nx s0 N Q par mv dep) (hj : j < N) (h : ∀ x, x < N → Bn nx c W Q C p x) (hle : C' j ≤ C j) (hf : ∀ k x, k < 10 → x < N → nx k (Q j) = some (Q x) → C' j ≤ C x + c k) : Bn nx c W Q C' (p + 1) j := by
  intro n hn m w h1 h2
  cases n with
  | zero =>
    have := h j hj 0 (Nat.zero_le _) m w h1 h2
    omega
  | succ n =>
    obtain ⟨k, u, b, k1, k2, k3, k4⟩ := h1
    obtain ⟨x, x1, x2, -⟩ := hB.edge hj k1 k2
    rw [← x2] at k2 k3
    have a := hf k x k1 x1 k2
    have b := h x x1 n (by omega) b w k3 h2
    omega
theorem Bn.le {C C' : Nat → Nat} {p j : Nat} (h : Bn nx c W Q C p j) (hle : C' j ≤ C j) : Bn nx c W Q C' p j := fun n hn m w h1 h2 => Nat.le_trans hle (h n hn m w h1 h2)
end PURE
def fr69 (g h : xm_H) : Prop := g.2 = h.2 ∧ ∀ q, q ≠ 69 → g.1 q = h.1 q
section OPS
variable {L : Nat} {xs : Nat → Int32} {d : Nat} {t : Nat} {nx : Nat → St → Option St} {s0 : St} {N : Nat} {Q : Nat → St} {par mv dep : Nat → Nat}
theorem x_tow {g : xm_H} {l : Int32} {w : Nat → Int32} (hR : g.2.2 = xm_R0 t) (ht : t = 5 ∨ t = 13) (hF : FC nx s0 N Q par mv dep g.1) (hW : ∀ s, st_K s → F_X8_isMetBy g t (st_P s) = if wsh w s = true then 1 else 0) : ∃ r6 r, xm_V (xm_X0 L xs) xm_P (d + 8) 87 [.ref 61, .ref (t + 1)] g (some (.int r6)) g ∧ xm_V (xm_X0 L xs) xm_P (d + 8) 92 [.ref 61, .int r6, .int l] g (some (.int r)) g ∧ ∀ r', (((∀ j, j < N → ¬ wsh w (Q j) = true) ∧ r' = -1) ∨ (l < 0 ∧ r' = -1) ∨ (∃ e y, e < 2147483648 ∧ l = nI e ∧ y < N ∧ wsh w (Q y) = true ∧ (∀ j, j < N → wsh w (Q j) = true → dep y ≤ dep j) ∧ GA nx (fun _ => 1) (fun s => wsh w s = true) N Q dep (dep y) e 0 r')) → r' = r := by
  rcases v_first (L := L) (xs := xs) (d := d) (W := wsh w) hR ht hF hW with ⟨y, y1, y2, y3, V⟩ | ⟨hno, V⟩
  · by_cases q : l < 0
    · refine ⟨nI y, -1, V, v_towards_m (d := d) hR ht q, fun r' hr => ?_⟩
      rcases hr with ⟨a1, a2⟩ | ⟨-, a2⟩ | ⟨e, z, a1, a2, -⟩
      · exact a2
      · exact a2
      · rw [a2] at q
        exact absurd q (nI_pos a1)
    · obtain ⟨e, he, rfl⟩ := nI_of q
      refine ⟨nI y, _, V, v_towards (d := d) hR ht hF y1 he, fun r' hr => ?_⟩
      rcases hr with ⟨a1, a2⟩ | ⟨a1, a2⟩ | ⟨e', z, a1, a2, a3, a4, a5, a6⟩
      · exact absurd y2 (a1 y y1)
      · exact absurd a1 q
      · have ee : e = e' := (nI_eq (by omega) (by omega)).mp a2
        subst ee
        have hyz : y ≤ z := by
          by_cases hh : y ≤ z
          · exact hh
          · exact absurd a4 (y3 z (by omega))
        have d1 := hF.1.mono z y hyz a3
        have d2 := a5 y y1 y2
        have ed : dep z = dep y := by omega
        rw [ed] at a6
        have G := hF.1.ga (W := fun s => wsh w s = true) y1 y2 y3 e (dep y) (Nat.le_refl _)
        rw [hF.1.up0 y1] at G
        exact GA.uniq hF.1.2.2.2.1 e 0 _ _ a6 G
  · refine ⟨-1, -1, V, v_towards_n (d := d) hR ht, fun r' hr => ?_⟩
    rcases hr with ⟨a1, a2⟩ | ⟨a1, a2⟩ | ⟨e', z, a1, a2, a3, a4, -⟩
    · exact a2
    · exact a2
    · exact absurd a4 (hno z a3)
theorem op_step (a : Int32) : xm_opi (xm_X0 L xs) (d + 20) (Rel SIs) 90 268 [.int a] := by
  intro h hr
  obtain ⟨t, ht, hR, hw, hli, hwk⟩ := hr.opn
  rcases wish_of hw hli with ⟨q1, q2⟩ | ⟨q1, q2, hn, hW⟩
  · exact ⟨-2, h, h, v_X10_step (d := d + 19) (s_X10_step_0_0 (d := d + 12) hR ht q1), v_X11_step (d := d + 19) (s_X11_step_0_0 (d := d + 12) hR ht q2), hr⟩
  · obtain ⟨cn, s, rm, ar, hN, e3, hrm, er, e4, -⟩ := now_of hw hli hwk hn
    obtain ⟨g, N, P, Q, par, mv, dep, D, V, g2, gq, hF, hrg, -⟩ := x_ahead (L := L) (xs := xs) (d := d + 7) hr hR ht hN e3 hrm e4
    have gR : g.2.2 = xm_R0 t := by rw [g2]; exact hR
    have e83 : g.1 83 = h.1 83 := gq 83 (by omega)
    have c2 : ¬ F_X11_canWish g t = 0 := by
      unfold F_X11_canWish F_X11_isLinen F_X11_isWished at q2 ⊢
      rw [e83]
      exact q2
    obtain ⟨z, r3, N', Q', par', mv', dep', F, V', b1, b2, b3, -⟩ := r_search (L := L) (xs := xs) (d := d + 9) (b := false) gR ht (hN.fr e83) hrm
    rw [cs_f] at b2 b3
    have zR : z.2.2 = xm_R0 t := by rw [b1.1]; exact gR
    have b3' := b3.to hF.1
    have b3'' := b3'.cgF (F' := dep) (fun j hj => (b3'.2.2.2.1.dp hF.1 j hj).symm)
    obtain ⟨y, r', Vc, y1, y2⟩ := v_chosenAt (L := L) (xs := xs) (d := d + 10) (l1 := a) ht zR b2 b3''
    rw [b1.2.1 83 (by decide) (by decide) (by decide), e83] at y2
    obtain ⟨r6, r, x1, x2, x3⟩ := x_tow (L := L) (xs := xs) (d := d + 11) (l := a) (w := h.1 83) gR ht hF (fun s hs => by rw [met_fr (gq (t + 1) (by omega))]; exact hW s hs)
    have e := x3 r' y2
    subst e
    exact ⟨r', g, y, v_X10_step (d := d + 19) (s_X10_step_0_1 (d := d + 12) hR ht q1 V gR x1 x2), v_X11_step (d := d + 19) (s_X11_step_0_1 (d := d + 12) gR ht c2 (by rw [e83, er]; exact V') Vc), (hrg.srF b1).fr90 y1⟩
theorem op_rail (a : Int32) : xm_opi (xm_X0 L xs) (d + 20) (Rel SIs) 102 275 [.int a] := by
  intro h hr
  obtain ⟨t, ht, hR, hw, hli, hwk⟩ := hr.opn
  rcases wish_of hw hli with ⟨q1, q2⟩ | ⟨q1, q2, hn, hW⟩
  · exact ⟨-2, h, h, v_X10_rail (d := d + 19) (s_X10_rail_0_0 (d := d + 12) hR ht q1), v_X11_rail (d := d + 19) (s_X11_rail_0_0 (d := d + 12) hR ht q2), hr⟩
  · obtain ⟨cn, s, rm, ar, hN, e3, hrm, er, e4, har, ea, ea5, -⟩ := now_of hw hli hwk hn
    obtain ⟨A, B, hA, hB, hK, hU, -⟩ := hN.uS
    obtain ⟨g, N, P, Q, par, mv, dep, D, V, g2, gq, hF, hrg, -⟩ := x_explore (L := L) (xs := xs) (d := d + 7) hr hR ht hA hB hK hU (al := 975) (by decide) (sp := 60) (Nat.le_refl _) har
    have gR : g.2.2 = xm_R0 t := by rw [g2]; exact hR
    have e83 : g.1 83 = h.1 83 := gq 83 (by omega)
    have V1 := v_X10_exploreAlone (d := d + 18) (s_X10_exploreAlone_0_0 (L := L) (xs := xs) (d := d + 11) (h := h) hR ht (by rw [e3, ea5]; exact V))
    have c2 : ¬ F_X11_canWish g t = 0 := by
      unfold F_X11_canWish F_X11_isLinen F_X11_isWished at q2 ⊢
      rw [e83]
      exact q2
    obtain ⟨z, r3, N', Q', par', mv', dep', F, V', b1, b2, b3, -⟩ := r_alone (L := L) (xs := xs) (d := d + 9) (l1 := g.1 83 3) gR ht (hN.fr e83) har (by rw [e83]; exact ea)
    rw [cs_f] at b2 b3
    have zR : z.2.2 = xm_R0 t := by rw [b1.1]; exact gR
    have b3' := b3.to hF.1
    have b3'' := b3'.cgF (F' := dep) (fun j hj => (b3'.2.2.2.1.dp hF.1 j hj).symm)
    obtain ⟨y, r', Vc, y1, y2⟩ := v_chosenAt (L := L) (xs := xs) (d := d + 10) (l1 := a) ht zR b2 b3''
    rw [b1.2.1 83 (by decide) (by decide) (by decide), e83] at y2
    obtain ⟨r6, r, x1, x2, x3⟩ := x_tow (L := L) (xs := xs) (d := d + 11) (l := a) (w := h.1 83) gR ht hF (fun s hs => by rw [met_fr (gq (t + 1) (by omega))]; exact hW s hs)
    have e := x3 r' y2
    subst e
    exact ⟨r', g, y, v_X10_rail (d := d + 19) (s_X10_rail_0_1 (d := d + 12) hR ht q1 V1 gR x1 x2), v_X11_rail (d := d + 19) (s_X11_rail_0_1 (d := d + 12) gR ht c2 V' Vc), (hrg.srF b1).fr90 y1⟩
end OPS
