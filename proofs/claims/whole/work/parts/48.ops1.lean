/-! Pairs of calls: what is done, and what is asked of it. -/
theorem R0_inj {t t' : Nat} (e : xm_R0 t = xm_R0 t') : t = t' := by
  have e2 : (some t : Option Nat) = some t' := congrFun (congrFun e 3) 0
  exact Option.some.inj e2
theorem or_z (x : Int32) : x ||| (0 : Int32) = x := by simp
/-- bits told by a test -/
def bts (f : Nat → Bool) : Nat → Int32
  | 0 => 0
  | j + 1 => if f j = true then bts f j ||| ((1 : Int32) <<< (nI j &&& 31)) else bts f j
theorem ix_her (j : Nat) : (24 : Int32) + ((2 : Int32) * nI j) = nI (24 + 2 * j) := by rw [show (24 : Int32) = nI 24 from rfl, show (2 : Int32) = nI 2 from rfl, nm_mul, nI_add]
theorem ix_his (j : Nat) : ((24 : Int32) + ((2 : Int32) * nI j)) + (1 : Int32) = nI (25 + 2 * j) := by
  rw [ix_her, nI_1]
  congr 1
  omega
theorem g_her {j : Nat} (hj : j ≤ 6) : ¬ ((24 : Int32) + ((2 : Int32) * nI j) < 0 ∨ 110 ≤ ((24 : Int32) + ((2 : Int32) * nI j)).toNatClampNeg) := by
  rw [ix_her]
  exact nI_in (by omega) (by omega)
theorem g_his {j : Nat} (hj : j ≤ 6) : ¬ (((24 : Int32) + ((2 : Int32) * nI j)) + (1 : Int32) < 0 ∨ 110 ≤ (((24 : Int32) + ((2 : Int32) * nI j)) + (1 : Int32)).toNatClampNeg) := by
  rw [ix_his]
  exact nI_in (by omega) (by omega)
/-- what two acts are -/
def mgT : List Nat := [0, 10, 12, 12, 11, 1, 12, 12, 12, 12, 5, 3, 12, 12, 4, 12]
def mg (p q : Nat) : Nat := mgT.getD (4 * p + q) 0
theorem mg_tab : ∀ p, p < 4 → ∀ q, q < 4 → F_X0_actOfBoth (nI p) (nI q) = nI (mg p q) ∧ F_X11_meaning (nI p) (nI q) = nI (mg p q) ∧ mg p q ≤ 12 := by decide +kernel
section OPS
variable {L : Nat} {xs : Nat → Int32} {d : Nat} {SI : (Nat → Nat → Int32) → (Nat → Nat → Int64) → Prop}
theorem Rel.opn {h : xm_H} (hr : Rel SI h) : ∃ t, (t = 5 ∨ t = 13) ∧ h.2.2 = xm_R0 t ∧ rl_wf (h.1 83) ∧ rl_lin (h.1 t) (h.1 (t + 1)) (h.1 (t + 2)) (h.1 (t + 3)) (h.1 (t + 4)) (h.1 (t + 5)) (h.1 (t + 6)) (h.1 (t + 7)) (h.1 83) ∧ rl_wk (h.1 3) (h.1 4) (h.1 83) := by
  obtain ⟨t, ht, hR, -, -, hw, hli, hwk, -⟩ := hr
  exact ⟨t, ht, hR, hw, hli, hwk⟩
theorem told_of {h : xm_H} {t : Nat} (hw : rl_wf (h.1 83)) (hli : rl_lin (h.1 t) (h.1 (t + 1)) (h.1 (t + 2)) (h.1 (t + 3)) (h.1 (t + 4)) (h.1 (t + 5)) (h.1 (t + 6)) (h.1 (t + 7)) (h.1 83)) (hwk : rl_wk (h.1 3) (h.1 4) (h.1 83)) (hn : ¬ h.1 83 22 = 0) : ∃ c s rm, c ≤ 60 ∧ h.1 83 23 = nI c ∧ (∀ j, j < c → rl_in (h.1 83 (50 + j)) 0 12) ∧ rl_in (h.1 83 0) 1 48 ∧ rl_in (h.1 83 1) 1 48 ∧ rl_in (h.1 83 3) 1 60 ∧ rp (h.1 83) c = some s ∧ st_K s ∧ h.1 83 3 = nI rm ∧ rm ≤ 60 ∧ h.1 t 4 = nI rm ∧ (∀ k, k < 6 → h.1 (t + 2) k = h.1 83 (5 + k)) ∧ h.1 3 2 = nI c ∧ h.1 3 3 = st_P s ∧ h.1 3 4 = sc (h.1 83) c ∧ (∀ i, i < c → h.1 4 i = h.1 83 (50 + i)) := by
  obtain ⟨-, -, hw2, -, -, -, -, -, -, -, ⟨c, hc, e23, hact⟩⟩ := hw
  obtain ⟨h0, h1, -, h3, -, -⟩ := hw2 hn
  obtain ⟨-, -, -, -, l4, -, -, -, -, -, -, -, -, -, l14, -⟩ := hli
  obtain ⟨k2, k3, k4⟩ := hwk
  obtain ⟨s, k5, k6, k7, k8⟩ := k4 hn
  have h3' := h3
  obtain ⟨rm, r1, r2, er⟩ := h3'
  rw [e23, nI_clamp (by omega)] at k5 k8
  exact ⟨c, s, rm, hc, e23, hact, h0, h1, h3, k5, k6, er, r2, l4.trans er, l14 hn, k2.trans e23, k7, k8, fun i hi => k3 i (by omega) (by rw [e23]; exact nI_lt hi (by omega))⟩
theorem calls_of {h : xm_H} {t : Nat} (hw : rl_wf (h.1 83)) (hli : rl_lin (h.1 t) (h.1 (t + 1)) (h.1 (t + 2)) (h.1 (t + 3)) (h.1 (t + 4)) (h.1 (t + 5)) (h.1 (t + 6)) (h.1 (t + 7)) (h.1 83)) : ∃ c, c ≤ 6 ∧ h.1 t 6 = nI c ∧ h.1 83 19 = nI c ∧ (h.1 83 22 = 0 → c = 0) ∧ (∀ j, j < c → ∃ p q, p < 4 ∧ q < 4 ∧ F_X0_herAct h t (nI j) = nI p ∧ F_X0_hisAct h t (nI j) = nI q ∧ F_X11_her h t (nI j) = nI p ∧ F_X11_his h t (nI j) = nI q) := by
  obtain ⟨-, hz, -, -, -, -, -, ⟨c, hc, e19, hcs⟩, -⟩ := hw
  obtain ⟨-, -, -, -, -, -, l6, -, -, -, -, -, -, -, -, l15, -⟩ := hli
  refine ⟨c, hc, l6.trans e19, e19, fun h0 => ?_, fun j hj => ?_⟩
  · have := hz h0 19 (by omega)
    rw [e19, show (0 : Int32) = nI 0 from rfl, nI_eq (by omega) (by omega)] at this
    exact this
  · obtain ⟨⟨p, -, hp, ep⟩, ⟨q, -, hq, eq⟩⟩ := hcs j hj
    obtain ⟨a1, a2⟩ := l15 j (by rw [e19]; exact nI_lt hj (by omega)) (by omega)
    refine ⟨p, q, by omega, by omega, ?_, ?_, ?_, ?_⟩
    · unfold F_X0_herAct
      rw [if_neg (nI_pos (by omega)), if_neg (show ¬ Int32.ofNat 6 ≤ nI j from nI_ge (b := 6) (by omega) (by omega)), nI_clamp (by omega), a1, ep]
    · unfold F_X0_hisAct
      rw [if_neg (nI_pos (by omega)), if_neg (show ¬ Int32.ofNat 6 ≤ nI j from nI_ge (b := 6) (by omega) (by omega)), nI_clamp (by omega), a2, eq]
    · unfold F_X11_her
      rw [ix_her, nI_clamp (by omega), ep]
    · unfold F_X11_his
      rw [ix_his, nI_clamp (by omega), eq]
theorem hA_32 {h : xm_H} {c a : Nat} {s' : St} : (hA h c a s').1 3 2 = nI (c + 1) := by
  unfold hA
  rw [xm_rk (by decide), xm_rk (by decide), xm_ra]
theorem hA_33 {h : xm_H} {c a : Nat} {s' : St} : (hA h c a s').1 3 3 = st_P s' := by
  unfold hA
  rw [xm_rk (by decide), xm_ra]
theorem hA_34 {h : xm_H} {c a : Nat} {s' : St} : (hA h c a s').1 3 4 = h.1 3 4 + sc1 (h.1 83) a := xm_ra
theorem hA_4c {h : xm_H} {c a : Nat} {s' : St} : (hA h c a s').1 4 c = nI a := by
  unfold hA
  rw [xm_rn (by decide), xm_rn (by decide), xm_rn (by decide), xm_ra]
theorem hA_4k {h : xm_H} {c a k : Nat} {s' : St} (hk : k ≠ c) : (hA h c a s').1 4 k = h.1 4 k := by
  unfold hA
  rw [xm_rn (by decide), xm_rn (by decide), xm_rn (by decide), xm_rk hk]
/-- an act, on both sides -/
theorem op_act {h : xm_H} {t a : Nat} (hr : Rel SI h) (ht : t = 5 ∨ t = 13) (hR : h.2.2 = xm_R0 t) (hw : rl_wf (h.1 83)) (hli : rl_lin (h.1 t) (h.1 (t + 1)) (h.1 (t + 2)) (h.1 (t + 3)) (h.1 (t + 4)) (h.1 (t + 5)) (h.1 (t + 6)) (h.1 (t + 7)) (h.1 83)) (hwk : rl_wk (h.1 3) (h.1 4) (h.1 83)) (hn : ¬ h.1 83 22 = 0) (ha : a ≤ 12) : ∃ (r : Int32) (h1 h2 : xm_H), (r = 0 ∨ r = 1) ∧ xm_V (xm_X0 L xs) xm_P (d + 11) 51 [.ref 3, .int (nI a)] h (some (.int r)) h1 ∧ h1.2 = h.2 ∧ (∀ q, q ≠ 3 → q ≠ 4 → h1.1 q = h.1 q) ∧ xm_V (xm_X0 L xs) xm_P (d + 11) 242 [.ref 82, .int (nI a)] h1 (some (.int r)) h2 ∧ h2.2 = h.2 ∧ rl_same (h.1 83) (h2.1 83) ∧ Rel SI h2 := by
  obtain ⟨c, s, rm, hc, e23, hact, h0, h1, h3, hs, hK, er, hrm, e4, h14, e2, e3, esec, hac⟩ := told_of hw hli hwk hn
  by_cases hq : c = 60 ∨ st_do rm a s = none
  · obtain ⟨h2, hh2, V2⟩ := v_does0 (L := L) (xs := xs) (d := d) hR ht hc e23 hact h0 h1 h3 hs er hrm ha hq
    refine ⟨0, h, h2, Or.inl rfl, v_doAct0 (d := d + 3) hR ht hc e2 e3 hK e4 hrm ha hq, rfl, fun _ _ _ => rfl, V2, ?_⟩
    rcases hh2 with rfl | rfl
    · exact ⟨rfl, fun _ _ _ => rfl, hr⟩
    · exact ⟨rfl, fun k _ _ => by rw [rf_n83], hr.rf_n⟩
  · have hc' : c < 60 := by omega
    cases hs' : st_do rm a s with
    | none => exact absurd (Or.inr hs') hq
    | some s' =>
      have e83 : (hA h c a s').1 83 = h.1 83 := hA_q (by decide) (by decide)
      have V1 := v_doAct1 (L := L) (xs := xs) (d := d + 3) hR ht hc' e2 e3 hK e4 hrm ha h14 hs'
      have V2 := v_does1 (L := L) (xs := xs) (d := d) (h := hA h c a s') (t := t) (c := c) (a := a) (rm := rm) (s := s) (s' := s') hR ht hc' (by rw [e83]; exact e23) (by rw [e83]; exact hact) (by rw [e83]; exact h0) (by rw [e83]; exact h1) (by rw [e83]; exact h3) (by rw [e83]; exact hs) (by rw [e83]; exact er) hrm ha hs'
      have hsm : rl_same (h.1 83) ((hB (hA h c a s') c a).1 83) := fun k k23 k50 => by rw [hB_k k23 (by omega), e83]
      have h50 : ∀ i, i < c → (hB (hA h c a s') c a).1 83 (50 + i) = h.1 83 (50 + i) := fun i hi => by rw [hB_k (by omega) (by omega), e83]
      refine ⟨1, _, _, Or.inr rfl, V1, rfl, fun q q3 q4 => hA_q q3 q4, V2, rfl, hsm, ?_⟩
      refine hr.work rfl (fun q hq n3 n4 n83 => ?_) (fun _ _ => rfl) (fun j _ => ?_) (fun j hj => ?_) hsm hn ?_ ⟨c + 1, by omega, hB_23, fun j hj => ?_⟩
      · rw [hB_q (by unfold rl_cell at hq; omega) n83, hA_q n3 n4]
      · rw [hB_q (by decide) (by decide), hA_q (by decide) (by decide)]
      · rw [hB_82 (by omega) (by omega), hA_q (by decide) (by decide)]
      · refine ⟨?_, fun i hi hlt => ?_, fun _ => ⟨s', ?_, st_do_K hK hs' ha, ?_, ?_⟩⟩
        · rw [hB_q (by decide) (by decide), hA_32, hB_23]
        · rw [hB_23, nI_ltI (by omega) (by omega)] at hlt
          rw [hB_q (by decide) (by decide)]
          by_cases hic : i = c
          · subst hic
            rw [hA_4c, hB_c]
          · rw [hA_4k hic, h50 i (by omega)]
            exact hac i (by omega)
        · rw [hB_23, nI_clamp (by omega)]
          have e1 := rp_w (w := h.1 83) (w' := (hB (hA h c a s') c a).1 83) (hsm 0 (by decide) (by decide)) (hsm 1 (by decide) (by decide)) (hsm 3 (by decide) (by decide)) c h50
          simp only [rp]
          rw [e1, hs, hB_c, hsm 3 (by decide) (by decide), er, nI_clamp (by omega), nI_clamp (by omega)]
          exact hs'
        · rw [hB_q (by decide) (by decide), hA_33]
        · rw [hB_q (by decide) (by decide), hA_34, hB_23, nI_clamp (by omega)]
          have e1 := sc_w (w := h.1 83) (w' := (hB (hA h c a s') c a).1 83) (fun k hk => hsm (5 + k) (by omega) (by omega)) c h50
          have e2 : sc1 ((hB (hA h c a s') c a).1 83) a = sc1 (h.1 83) a := by
            unfold sc1
            rw [hsm 5 (by decide) (by decide), hsm 6 (by decide) (by decide), hsm 7 (by decide) (by decide), hsm 8 (by decide) (by decide), hsm 9 (by decide) (by decide), hsm 10 (by decide) (by decide)]
          simp only [sc]
          rw [e1, hB_c, nI_clamp (by omega), e2, esec]
      · by_cases hic : j = c
        · subst hic
          rw [hB_c]
          exact ⟨a, by omega, ha, rfl⟩
        · rw [h50 j (by omega)]
          exact hact j (by omega)
theorem op_fold (a : Int32) : xm_opi (xm_X0 L xs) (d + 20) (Rel SI) 50 241 [.int a] := by
  intro h hr
  obtain ⟨t, ht, hR, hw, hli, hwk⟩ := hr.opn
  by_cases hn : h.1 83 22 = 0
  · have q := ln_0 (t := t) hli.1 hn
    exact ⟨-2, h, h, v_X10_fold (d := d + 19) (s_X10_fold_0_3 (d := d + 12) hR ht (by rw [q.1]; decide)), v_X11_fold (d := d + 19) (s_X11_fold_0_0 (d := d + 12) hR ht q.2), hr⟩
  · have q := ln_1 (t := t) hli.1 hw.1 hn
    by_cases hb : nb a 0 9
    · have m1 := (x_isMove a).1 hb
      have m2 : F_X11_isMove a.toInt64 = 1 := (in_0_9 a).1 hb
      obtain ⟨j, -, hj, rfl⟩ := hb
      obtain ⟨r, h1, h2, hr01, V1, e1, eq1, V2, e2, hsm, hr2⟩ := op_act (L := L) (xs := xs) (d := d + 8) hr ht hR hw hli hwk hn (a := j) (by omega)
      have hR1 : h1.2.2 = xm_R0 t := by rw [e1]; exact hR
      have hR2 : h2.2.2 = xm_R0 t := by rw [e2]; exact hR
      have q1 : F_X11_isLinen h1 t = 1 := by
        have := q.2
        unfold F_X11_isLinen at this ⊢
        rw [eq1 83 (by decide) (by decide)]
        exact this
      have n0 : ¬ (1 : Int32) = 0 := by decide
      rcases hr01 with rfl | rfl
      · exact ⟨-5, h1, h2, v_X10_fold (d := d + 19) (s_X10_fold_0_1 (d := d + 12) hR ht q.1 (by rw [m1]; exact n0) V1 rfl), v_X11_fold (d := d + 19) (s_X11_fold_0_2 (d := d + 12) hR1 ht (by rw [q1]; exact n0) (by rw [m2]; exact n0) V2 rfl), hr2⟩
      · have W1 := v_X10_fold (d := d + 19) (s_X10_fold_0_2 (d := d + 12) hR ht q.1 (by rw [m1]; exact n0) V1 n0 hR1)
        have W2 := v_X11_fold (d := d + 19) (s_X11_fold_0_3 (d := d + 12) hR1 ht (by rw [q1]; exact n0) (by rw [m2]; exact n0) V2 n0 hR2)
        rw [xk_of (by omega) (fun k hk => by rw [eq1 83 (by decide) (by decide), eq1 (t + 2) (by omega) (by omega)]; exact hli.2.2.2.2.2.2.2.2.2.2.2.2.2.2.1 hn k hk), eq1 83 (by decide) (by decide)] at W1
        rw [sk_of (by omega)] at W2
        have e3 : sc1 (h2.1 83) j = sc1 (h.1 83) j := by
          unfold sc1
          rw [hsm 5 (by decide) (by decide), hsm 6 (by decide) (by decide), hsm 7 (by decide) (by decide), hsm 8 (by decide) (by decide), hsm 9 (by decide) (by decide), hsm 10 (by decide) (by decide)]
        rw [e3] at W2
        exact ⟨_, _, _, W1, W2, hr2⟩
    · exact ⟨-2, h, h, v_X10_fold (d := d + 19) (s_X10_fold_0_0 (d := d + 12) hR ht q.1 ((x_isMove a).2 hb)), v_X11_fold (d := d + 19) (s_X11_fold_0_1 (d := d + 12) hR ht (by rw [q.2]; decide) ((in_0_9 a).2 hb)), hr⟩
theorem isCall_x {h : xm_H} {t c : Nat} {a : Int32} (hc : c ≤ 6) (e6 : h.1 t 6 = nI c) (e19 : h.1 83 19 = nI c) : ((∃ j, j < c ∧ a = nI j) → F_X10_isCall h t a = 1 ∧ F_X11_isCall h t a.toInt64 = 1) ∧ ((¬ ∃ j, j < c ∧ a = nI j) → F_X10_isCall h t a = 0 ∧ F_X11_isCall h t a.toInt64 = 0) := by
  unfold F_X10_isCall F_X11_isCall
  rw [e6, e19]
  constructor
  · rintro ⟨j, hj, rfl⟩
    exact ⟨x_cnt_y hj (by omega), cnt_y hj (by omega)⟩
  · intro hj
    exact ⟨x_cnt_n (by omega) hj, cnt_n (by omega) hj⟩
theorem op_call (a : Int32) : xm_opi (xm_X0 L xs) (d + 20) (Rel SI) 55 243 [.int a] := by
  intro h hr
  obtain ⟨t, ht, hR, hw, hli, hwk⟩ := hr.opn
  obtain ⟨c, hc, e6, e19, hz, hcs⟩ := calls_of hw hli
  have hi := isCall_x (h := h) (t := t) (a := a) hc e6 e19
  by_cases hb : ∃ j, j < c ∧ a = nI j
  · have m := hi.1 hb
    obtain ⟨j, hj, rfl⟩ := hb
    have hn : ¬ h.1 83 22 = 0 := fun h0 => by have := hz h0; omega
    obtain ⟨p, q, hp, hq, b1, b2, b3, b4⟩ := hcs j hj
    obtain ⟨t1, t2, t3⟩ := mg_tab p hp q hq
    have w1 : F_X0_actOf h t (nI j) = nI (mg p q) := by
      unfold F_X0_actOf
      rw [b1, b2, t1]
    obtain ⟨r, h1, h2, hr01, V1, e1, eq1, V2, e2, hsm, hr2⟩ := op_act (L := L) (xs := xs) (d := d + 8) hr ht hR hw hli hwk hn (a := mg p q) t3
    have hR1 : h1.2.2 = xm_R0 t := by rw [e1]; exact hR
    have e83 : h1.1 83 = h.1 83 := eq1 83 (by decide) (by decide)
    have q1 : F_X11_isCall h1 t (nI j).toInt64 = 1 := by
      have := m.2
      unfold F_X11_isCall at this ⊢
      rw [e83]
      exact this
    have w2 : F_X11_meaning (F_X11_her h1 t (nI j)) (F_X11_his h1 t (nI j)) = nI (mg p q) := by
      have x1 : F_X11_her h1 t (nI j) = nI p := by
        rw [← b3]
        unfold F_X11_her
        rw [e83]
      have x2 : F_X11_his h1 t (nI j) = nI q := by
        rw [← b4]
        unfold F_X11_his
        rw [e83]
      rw [x1, x2, t2]
    have n0 : ¬ (1 : Int32) = 0 := by decide
    have V1' := V1
    have V2' := V2
    rw [← w1] at V1'
    rw [← w2] at V2'
    rcases hr01 with rfl | rfl
    · exact ⟨-5, h1, h2, v_X10_call (d := d + 19) (s_X10_call_0_1 (d := d + 12) hR ht (by rw [m.1]; exact n0) V1' rfl), v_X11_call (d := d + 19) (s_X11_call_0_1 (d := d + 12) hR1 ht (by rw [q1]; exact n0) (g_her (by omega)) (g_his (by omega)) V2' rfl), hr2⟩
    · have W1 := v_X10_call (d := d + 19) (s_X10_call_0_2 (d := d + 12) hR ht (by rw [m.1]; exact n0) V1' n0)
      have W2 := v_X11_call (d := d + 19) (s_X11_call_0_2 (d := d + 12) hR1 ht (by rw [q1]; exact n0) (g_her (by omega)) (g_his (by omega)) V2' n0)
      rw [w1] at W1
      rw [w2] at W2
      exact ⟨_, _, _, W1, W2, hr2⟩
  · have m := hi.2 hb
    exact ⟨-2, h, h, v_X10_call (d := d + 19) (s_X10_call_0_0 (d := d + 12) hR ht m.1), v_X11_call (d := d + 19) (s_X11_call_0_0 (d := d + 12) hR ht m.2), hr⟩
theorem op_means (a : Int32) : xm_opi (xm_X0 L xs) (d + 20) (Rel SI) 123 287 [.int a] := by
  intro h hr
  obtain ⟨t, ht, hR, hw, hli, hwk⟩ := hr.opn
  obtain ⟨c, hc, e6, e19, hz, hcs⟩ := calls_of hw hli
  have hi := isCall_x (h := h) (t := t) (a := a) hc e6 e19
  have n0 : ¬ (1 : Int32) = 0 := by decide
  by_cases hb : ∃ j, j < c ∧ a = nI j
  · have m := hi.1 hb
    obtain ⟨j, hj, rfl⟩ := hb
    obtain ⟨p, q, hp, hq, b1, b2, b3, b4⟩ := hcs j hj
    obtain ⟨t1, t2, t3⟩ := mg_tab p hp q hq
    have W1 := e_X10_means (L := L) (xs := xs) (d := d + 17) (l1 := nI j) hR ht
    have W2 := e_X11_means (L := L) (xs := xs) (d := d + 17) (l1 := nI j) hR ht (fun _ => g_her (by omega)) (fun _ => g_his (by omega))
    unfold F_X10_means F_X0_actOf at W1
    unfold F_X11_means at W2
    rw [m.1, if_neg n0, b1, b2, t1] at W1
    rw [m.2, if_neg n0, b3, b4, t2] at W2
    exact ⟨_, _, _, W1, W2, hr⟩
  · have m := hi.2 hb
    have W1 := e_X10_means (L := L) (xs := xs) (d := d + 17) (l1 := a) hR ht
    have W2 := e_X11_means (L := L) (xs := xs) (d := d + 17) (l1 := a) hR ht (fun q => absurd m.2 q) (fun q => absurd m.2 q)
    unfold F_X10_means at W1
    unfold F_X11_means at W2
    rw [m.1, if_pos rfl] at W1
    rw [m.2, if_pos rfl] at W2
    exact ⟨_, _, _, W1, W2, hr⟩
theorem op_alike : xm_opi (xm_X0 L xs) (d + 20) (Rel SI) 130 292 [] := by
  intro h hr
  obtain ⟨t, ht, hR, hw, hli, hwk⟩ := hr.opn
  by_cases hn : h.1 83 22 = 0
  · have q := ln_0 (t := t) hli.1 hn
    exact ⟨-2, h, h, v_X10_alike (d := d + 19) (s_X10_alike_0_1 (d := d + 12) hR ht (by rw [q.1]; decide)), v_X11_alike (d := d + 19) (s_X11_alike_0_0 (d := d + 12) hR ht q.2), hr⟩
  · have q := ln_1 (t := t) hli.1 hw.1 hn
    obtain ⟨c, hc, e6, e19, hz, hcs⟩ := calls_of hw hli
    let f : Nat → Bool := fun j => decide (F_X0_herAct h t (nI j) = F_X0_hisAct h t (nI j))
    have lp1 : ∀ k i, k + i = c → xm_E (xm_X0 L xs) xm_P (d + 19) co_X10_alike 10 [some (.ref 0), some (.int (bts f i)), some (.int (nI i))] [] h (some (.int (bts f c))) h := by
      intro k
      induction k with
      | zero =>
        intro i hk
        have hic : i = c := by omega
        subst hic
        exact s_X10_alike_10_0 (d := d + 12) hR ht (by rw [e6]; exact nI_le (by omega) (by omega))
      | succ k ih =>
        intro i hk
        have hlt : ¬ (h.1 t 6 ≤ nI i) := by rw [e6]; exact nI_ge (by omega) (by omega)
        have e := ih (i + 1) (by omega)
        by_cases hf : F_X0_herAct h t (nI i) = F_X0_hisAct h t (nI i)
        · refine s_X10_alike_10_1 (d := d + 12) hR ht hlt hf ?_
          rw [nI_1]
          have e1 : bts f (i + 1) = bts f i ||| ((1 : Int32) <<< (nI i &&& 31)) := if_pos (decide_eq_true hf)
          rw [← e1]
          exact e
        · refine s_X10_alike_10_2 (d := d + 12) hR ht hlt hf ?_
          rw [nI_1]
          have e1 : bts f (i + 1) = bts f i := if_neg (by simp only [f, decide_eq_true_eq]; exact hf)
          rw [← e1]
          exact e
    have lp2 : ∀ k i, k + i = c → xm_E (xm_X0 L xs) xm_P (d + 19) co_X11_alike 9 [some (.ref 82), some (.int (bts f i)), some (.int (nI i))] [] h (some (.int (bts f c))) h := by
      intro k
      induction k with
      | zero =>
        intro i hk
        have hic : i = c := by omega
        subst hic
        exact s_X11_alike_9_0 (d := d + 12) hR ht (by rw [e19]; exact nI_le (by omega) (by omega))
      | succ k ih =>
        intro i hk
        have hlt : ¬ (h.1 83 19 ≤ nI i) := by rw [e19]; exact nI_ge (by omega) (by omega)
        have e := ih (i + 1) (by omega)
        obtain ⟨p, q, hp, hq, b1, b2, b3, b4⟩ := hcs i (by omega)
        by_cases hf : F_X0_herAct h t (nI i) = F_X0_hisAct h t (nI i)
        · refine s_X11_alike_9_1 (d := d + 12) hR ht hlt (g_her (by omega)) (g_his (by omega)) (by rw [b3, b4, ← b1, ← b2]; exact hf) ?_
          rw [nI_1]
          have e1 : bts f (i + 1) = bts f i ||| ((1 : Int32) <<< (nI i &&& 31)) := if_pos (decide_eq_true hf)
          rw [← e1]
          exact e
        · refine s_X11_alike_9_2 (d := d + 12) hR ht hlt (g_her (by omega)) (g_his (by omega)) (by rw [b3, b4, ← b1, ← b2]; exact hf) ?_
          rw [nI_1, or_z]
          have e1 : bts f (i + 1) = bts f i := if_neg (by simp only [f, decide_eq_true_eq]; exact hf)
          rw [← e1]
          exact e
    exact ⟨_, _, _, v_X10_alike (d := d + 19) (s_X10_alike_0_0 (d := d + 12) hR ht q.1 (lp1 c 0 (by omega))), v_X11_alike (d := d + 19) (s_X11_alike_0_1 (d := d + 12) hR ht (by rw [q.2]; decide) (lp2 c 0 (by omega))), hr⟩
end OPS
