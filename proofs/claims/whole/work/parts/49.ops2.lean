/-! More pairs of calls. -/
section OPS
variable {L : Nat} {xs : Nat → Int32} {d : Nat} {SI : (Nat → Nat → Int32) → (Nat → Nat → Int64) → Prop}
theorem op_fault (a : Int32) : xm_opi (xm_X0 L xs) (d + 20) (Rel SI) 34 195 [.int a] := by
  intro h hr
  have hr0 := hr
  obtain ⟨t, ht, hR, htp, hf, -⟩ := hr
  have e : F_X10_fault h t a = F_X11_fault h t a := by
    unfold F_X10_fault F_X11_fault
    rw [hf.1, hf.2]
  refine ⟨F_X10_fault h t a, h, h, f_X10_fault (d := d + 19) hR ht, ?_, hr0⟩
  rw [e]
  exact f_X11_fault (d := d + 19) hR ht
theorem op_end (a : Int32) : xm_opi (xm_X0 L xs) (d + 20) (Rel SI) 3 194 [.int a] := by
  intro h hr
  have hr0 := hr
  obtain ⟨t, ht, hR, ⟨n, hn, h1, h2, hb⟩, hrest⟩ := hr
  by_cases hin : (0 : Int32) ≤ a ∧ a ≤ nI n
  · have c0 : ¬ a < (0 : Int32) := Int32.not_lt.mpr hin.1
    have V1 := v_X10_end (X := xm_X0 L xs) (d := d + 19) (p_X10_end_0_1 c0 xs_0 (rr_l0_0 hR) xs_1 (by rw [h1]; exact hin.2))
    have e5 : (xm_si h 1 1 a).1 82 5 = nI n := by
      rw [← h2]
      exact congrFun (xm_rn (by decide)) 5
    have V2 := v_X11_end (X := xm_X0 L xs) (d := d + 19) (l1 := a) (p_X11_end_0_1 (h := xm_si h 1 1 a) xs_82 (f_X11_in (d := d + 18)) (by
      rw [e5]
      have := in_32 a 0 (nI n)
      rw [show (0 : Int32).toInt64 = (0 : Int64) from rfl] at this
      rw [this, if_pos hin]
      decide))
    obtain ⟨j, hj, rfl⟩ := nI_of c0
    have hjn : j ≤ n := (nI_leI (by omega) (by omega)).mp hin.2
    exact ⟨_, _, _, V1, V2, hr0.tape ⟨j, n, hjn, h1, hn, rfl⟩⟩
  · have V2 := v_X11_end (X := xm_X0 L xs) (d := d + 19) (l1 := a) (p_X11_end_0_0 (h := h) xs_82 (f_X11_in (d := d + 18)) (by
      rw [h2]
      have := in_32 a 0 (nI n)
      rw [show (0 : Int32).toInt64 = (0 : Int64) from rfl] at this
      rw [this, if_neg hin]))
    by_cases c0 : a < (0 : Int32)
    · exact ⟨_, _, _, v_X10_end (d := d + 19) (p_X10_end_0_0 c0), V2, hr0⟩
    · have V1 := v_X10_end (X := xm_X0 L xs) (d := d + 19) (p_X10_end_0_2 c0 xs_0 (rr_l0_0 hR) xs_1 (by rw [h1]; exact fun q => hin ⟨Int32.not_lt.mp c0, q⟩))
      exact ⟨_, _, _, V1, V2, hr0⟩
theorem op_led (a : Int32) : xm_opi (xm_X0 L xs) (d + 20) (Rel SI) 63 249 [.int a] := by
  intro h hr
  obtain ⟨t, ht, hR, hw, hli, hwk⟩ := hr.opn
  have V1 := e_X10_led (L := L) (xs := xs) (d := d + 18) (l1 := a) hR ht
  have n0 : ¬ (1 : Int32) = 0 := by decide
  by_cases hn : h.1 83 22 = 0
  · have q := ln_0 (t := t) hli.1 hn
    have V2 := f_X11_led (L := L) (xs := xs) (d := d + 18) (l1 := a) hR ht (fun z _ => absurd q.2 z)
    unfold F_X10_led at V1
    unfold F_X11_led at V2
    rw [q.1, if_neg n0] at V1
    rw [q.2, if_pos rfl] at V2
    exact ⟨_, _, _, V1, V2, hr⟩
  · have q := ln_1 (t := t) hli.1 hw.1 hn
    obtain ⟨c, s, rm, hc, e23, hact, h0, h1, h3, hs, hK, er, hrm, e4, h14, e2, e3, esec, hac⟩ := told_of hw hli hwk hn
    unfold F_X10_led F_X9_doneAt at V1
    rw [q.1, if_pos rfl, e2] at V1
    by_cases hj : ∃ j, j < c ∧ a = nI j
    · obtain ⟨j, hj, rfl⟩ := hj
      have hin : F_X11_in (nI j).toInt64 (0 : Int64) (((h.1 83 23) - (1 : Int32)).toInt64) = 1 := by
        rw [e23]
        exact cnt_y hj (by omega)
      have V2 := f_X11_led (L := L) (xs := xs) (d := d + 18) (l1 := nI j) hR ht (fun _ _ => by
        rw [show (50 : Int32) = nI 50 from rfl, nI_add]
        exact nI_in (by omega) (by omega))
      unfold F_X11_led at V2
      rw [q.2, if_neg n0, hin, if_neg n0, show (50 : Int32) = nI 50 from rfl, nI_add, nI_clamp (by omega)] at V2
      rw [if_neg (nI_pos (by omega)), if_neg (nI_ge hj (by omega)), if_neg (show ¬ (60 : Int32) ≤ nI j from nI_ge (b := 60) (by omega) (by omega)), nI_clamp (by omega), hac j hj] at V1
      exact ⟨_, _, _, V1, V2, hr⟩
    · have hin : F_X11_in a.toInt64 (0 : Int64) (((h.1 83 23) - (1 : Int32)).toInt64) = 0 := by
        rw [e23]
        exact cnt_n (by omega) hj
      have V2 := f_X11_led (L := L) (xs := xs) (d := d + 18) (l1 := a) hR ht (fun _ z => absurd hin z)
      unfold F_X11_led at V2
      rw [q.2, if_neg n0, hin, if_pos rfl] at V2
      have e : (if a < (0 : Int32) then (-1 : Int32) else (if nI c ≤ a then (-1 : Int32) else (if (60 : Int32) ≤ a then (-1 : Int32) else (h.1 4 a.toNatClampNeg)))) = -1 := by
        by_cases c0 : a < 0
        · rw [if_pos c0]
        · rw [if_neg c0]
          obtain ⟨j, hj2, rfl⟩ := nI_of c0
          by_cases q : c ≤ j
          · rw [if_pos (nI_le q hj2)]
          · exact absurd ⟨j, by omega, rfl⟩ hj
      rw [e] at V1
      exact ⟨_, _, _, V1, V2, hr⟩
theorem op_can (a : Int32) : xm_opi (xm_X0 L xs) (d + 20) (Rel SI) 45 238 [.int a] := by
  intro h hr
  obtain ⟨t, ht, hR, hw, hli, hwk⟩ := hr.opn
  have V1 := f_X10_can (L := L) (xs := xs) (d := d + 17) (l1 := a) hR ht
  unfold F_X10_can at V1
  have n0 : ¬ (1 : Int32) = 0 := by decide
  by_cases hn : h.1 83 22 = 0
  · have q := ln_0 (t := t) hli.1 hn
    rw [q.1, if_neg n0] at V1
    exact ⟨_, _, _, V1, v_X11_can (d := d + 19) (s_X11_can_0_0 (d := d + 12) hR ht q.2), hr⟩
  · have q := ln_1 (t := t) hli.1 hw.1 hn
    rw [q.1, if_pos rfl] at V1
    by_cases hb : nb a 0 9
    · have m1 := (x_isMove a).1 hb
      have m2 : F_X11_isMove a.toInt64 = 1 := (in_0_9 a).1 hb
      obtain ⟨j, -, hj, rfl⟩ := hb
      obtain ⟨c, s, rm, hc, e23, hact, h0, h1, h3, hs, hK, er, hrm, e4, h14, e2, e3, esec, hac⟩ := told_of hw hli hwk hn
      have VN := v_now (L := L) (xs := xs) (d := d + 10) hR ht hc e23 hact h0 h1 h3 hs
      rw [m1, if_neg n0, e3, e4, cx_possible hK (by omega) (by omega)] at V1
      cases hs' : st_do rm j s with
      | none =>
        rw [hs'] at V1
        exact ⟨_, _, _, V1, v_X11_can (d := d + 19) (s_X11_can_0_2 (d := d + 12) hR ht (by rw [q.2]; exact n0) (by rw [m2]; exact n0) VN hR (cm_movedN hK hj (rf_n16 h) ((rf_n15 h).trans er) (by omega) hs')), hr.rf_n⟩
      | some s' =>
        rw [hs'] at V1
        exact ⟨_, _, _, V1, v_X11_can (d := d + 19) (s_X11_can_0_3 (d := d + 12) hR ht (by rw [q.2]; exact n0) (by rw [m2]; exact n0) VN hR (by
          rw [cm_moved hK hj (rf_n16 h) ((rf_n15 h).trans er) (by omega) hs']
          exact st_M_n1 (st_do_K hK hs' (by omega)))), hr.rf_n⟩
    · rw [(x_isMove a).2 hb, if_pos rfl] at V1
      exact ⟨_, _, _, V1, v_X11_can (d := d + 19) (s_X11_can_0_1 (d := d + 12) hR ht (by rw [q.2]; exact n0) ((in_0_9 a).2 hb)), hr⟩
theorem op_moves : xm_opi (xm_X0 L xs) (d + 20) (Rel SI) 49 240 [] := by
  intro h hr
  obtain ⟨t, ht, hR, hw, hli, hwk⟩ := hr.opn
  have n0 : ¬ (1 : Int32) = 0 := by decide
  by_cases hn : h.1 83 22 = 0
  · have q := ln_0 (t := t) hli.1 hn
    exact ⟨-2, h, h, v_X10_moves (d := d + 19) (s_X10_moves_0_1 (d := d + 12) hR ht (by rw [q.1]; exact n0)), v_X11_moves (d := d + 19) (s_X11_moves_0_0 (d := d + 12) hR ht q.2), hr⟩
  · have q := ln_1 (t := t) hli.1 hw.1 hn
    obtain ⟨c, s, rm, hc, e23, hact, h0, h1, h3, hs, hK, er, hrm, e4, h14, e2, e3, esec, hac⟩ := told_of hw hli hwk hn
    have VN := v_now (L := L) (xs := xs) (d := d + 10) hR ht hc e23 hact h0 h1 h3 hs
    let f : Nat → Bool := fun j => (st_do rm j s).isSome
    have lp1 : ∀ k i, k + i = 10 → xm_E (xm_X0 L xs) xm_P (d + 19) co_X10_moves 10 [some (.ref 0), some (.int (bts f i)), some (.int (nI i))] [] h (some (.int (bts f 10))) h := by
      intro k
      induction k with
      | zero =>
        intro i hk
        have hic : i = 10 := by omega
        subst hic
        exact s_X10_moves_10_0 (d := d + 12) (by decide)
      | succ k ih =>
        intro i hk
        have hlt : ¬ ((10 : Int32) ≤ nI i) := nI_ge (b := 10) (by omega) (by omega)
        have e := ih (i + 1) (by omega)
        have ep : F_X5_possible (h.1 3 3) (nI i) (h.1 t 4) = if (st_do rm i s).isSome = true then 1 else 0 := by
          rw [e3, e4]
          exact cx_possible hK (by omega) (by omega)
        by_cases hf : f i = true
        · refine s_X10_moves_10_2 (d := d + 12) hR ht hlt (by rw [ep, if_pos hf]; exact n0) ?_
          rw [nI_1]
          have e1 : bts f (i + 1) = bts f i ||| ((1 : Int32) <<< (nI i &&& 31)) := if_pos hf
          rw [← e1]
          exact e
        · refine s_X10_moves_10_1 (d := d + 12) hR ht hlt (by rw [ep, if_neg hf]) ?_
          rw [nI_1]
          have e1 : bts f (i + 1) = bts f i := if_neg hf
          rw [← e1]
          exact e
    have lp2 : ∀ k i, k + i = 10 → xm_E (xm_X0 L xs) xm_P (d + 19) co_X11_moves 12 [some (.ref 82), some (.int (st_M s)), some (.int (bts f i)), some (.int (nI i))] [] (rf_n h) (some (.int (bts f 10))) (rf_n h) := by
      intro k
      induction k with
      | zero =>
        intro i hk
        have hic : i = 10 := by omega
        subst hic
        exact s_X11_moves_12_0 (d := d + 12) (by decide)
      | succ k ih =>
        intro i hk
        have hlt : ¬ ((10 : Int32) ≤ nI i) := nI_ge (b := 10) (by omega) (by omega)
        have e := ih (i + 1) (by omega)
        cases hs' : st_do rm i s with
        | none =>
          have hf : ¬ f i = true := by simp only [f, hs', Option.isSome]; decide
          refine s_X11_moves_12_1 (d := d + 12) (t := t) hR ht hlt (cm_movedN hK (by omega) (rf_n16 h) ((rf_n15 h).trans er) (by omega) hs') ?_
          rw [nI_1, or_z]
          have e1 : bts f (i + 1) = bts f i := if_neg hf
          rw [← e1]
          exact e
        | some s' =>
          have hf : f i = true := by simp only [f, hs', Option.isSome]
          refine s_X11_moves_12_2 (d := d + 12) (t := t) hR ht hlt (by
            rw [cm_moved hK (by omega) (rf_n16 h) ((rf_n15 h).trans er) (by omega) hs']
            exact st_M_n1 (st_do_K hK hs' (by omega))) ?_
          rw [nI_1]
          have e1 : bts f (i + 1) = bts f i ||| ((1 : Int32) <<< (nI i &&& 31)) := if_pos hf
          rw [← e1]
          exact e
    exact ⟨_, _, _, v_X10_moves (d := d + 19) (s_X10_moves_0_0 (d := d + 12) hR ht q.1 (lp1 10 0 (by omega))), v_X11_moves (d := d + 19) (s_X11_moves_0_1 (d := d + 12) hR ht (by rw [q.2]; exact n0) VN (lp2 10 0 (by omega))), hr.rf_n⟩
/-- layers -/
theorem ar_pos {s : St} (hK : st_K s) : 0 < s.1 * s.2.1 ∧ s.1 * s.2.1 ≤ 2304 := by
  obtain ⟨⟨a1, a2⟩, ⟨b1, b2⟩, -⟩ := hK
  exact ⟨Nat.mul_pos (by omega) (by omega), Nat.le_trans (Nat.mul_le_mul a2 b2) (by decide)⟩
theorem lay_x {h : xm_H} {t : Nat} {s : St} (hK : st_K s) (e1 : h.1 t 1 = h.1 83 0) (e2 : h.1 t 2 = h.1 83 1) : F_X0_layersOf h t (st_P s) = ((h.1 83 0) * (h.1 83 1)) / nI (s.1 * s.2.1) := by
  have hp := ar_pos hK
  unfold F_X0_layersOf
  rw [cx_long hK, cx_wide hK, nm_mul, e1, e2, if_pos (show (0 : Int32) < nI (s.1 * s.2.1) from nI_lt (a := 0) hp.1 (by omega))]
theorem lay_m {h : xm_H} {t : Nat} {s : St} (hK : st_K s) : F_X11_layersOf h t (st_M s) = ((h.1 83 0) * (h.1 83 1)) / nI (s.1 * s.2.1) := by
  unfold F_X11_layersOf
  rw [cm_long hK, cm_wide hK, nm_mul]
theorem ar_n0 {s : St} (hK : st_K s) : ¬ (F_X11_longOf (st_M s)) * (F_X11_wideOf (st_M s)) = 0 := by
  have hp := ar_pos hK
  rw [cm_long hK, cm_wide hK, nm_mul]
  exact nI_ne0 hp.1 (by omega)
theorem view_eq {h h' : xm_H} {t t' j : Nat} {s : St} {sec : Int32} (hj : j ≤ 7) (hK : st_K s) (e1 : h.1 t 1 = h.1 83 0) (e2 : h.1 t 2 = h.1 83 1) (e3 : h.1 t 3 = h.1 83 2) (e83 : h'.1 83 = h.1 83) : F_X10_viewOf h t (st_P s) sec (nI j) = F_X11_ofState h' t' (st_M s) (nI j) sec := by
  have hl : F_X11_layersOf h' t' (st_M s) = F_X0_layersOf h t (st_P s) := by
    rw [lay_x hK e1 e2, lay_m hK, e83]
  have : j = 0 ∨ j = 1 ∨ j = 2 ∨ j = 3 ∨ j = 4 ∨ j = 5 ∨ j = 6 ∨ j = 7 := by omega
  unfold F_X10_viewOf F_X11_ofState F_X0_thicknessOf
  rw [hl, e83, e3, cx_long hK, cx_wide hK, cx_hem hK, cx_face hK, cx_twist hK, cm_long hK, cm_wide hK, cm_hem hK, cm_face hK, cm_twist hK]
  rcases this with rfl | rfl | rfl | rfl | rfl | rfl | rfl | rfl <;> rfl
theorem op_state (a : Int32) : xm_opi (xm_X0 L xs) (d + 20) (Rel SI) 35 215 [.int a] := by
  intro h hr
  obtain ⟨t, ht, hR, hw, hli, hwk⟩ := hr.opn
  have V1 := e_X10_state (L := L) (xs := xs) (d := d + 15) (l1 := a) hR ht
  unfold F_X10_state at V1
  have n0 : ¬ (1 : Int32) = 0 := by decide
  by_cases hn : h.1 83 22 = 0
  · have q := ln_0 (t := t) hli.1 hn
    rw [q.1, if_neg n0] at V1
    exact ⟨_, _, _, V1, v_X11_state_ (d := d + 19) (s_X11_state__0_0 (d := d + 12) hR ht q.2), hr⟩
  · have q := ln_1 (t := t) hli.1 hw.1 hn
    rw [q.1, if_pos rfl] at V1
    by_cases hb : nb a 0 7
    · have m2 : F_X11_isOfState a = 1 := (in_0_7 a).1 hb
      obtain ⟨j, -, hj, rfl⟩ := hb
      obtain ⟨c, s, rm, hc, e23, hact, h0, h1, h3, hs, hK, er, hrm, e4, h14, e2, e3, esec, hac⟩ := told_of hw hli hwk hn
      have VN := v_now (L := L) (xs := xs) (d := d + 10) hR ht hc e23 hact h0 h1 h3 hs
      have VG := v_gone (L := L) (xs := xs) (d := d + 11) (h := rf_n h) hR ht hc (by rw [rf_n83]; exact e23) (by rw [rf_n83]; exact hact)
      rw [rf_n83] at VG
      have V2 := v_X11_state_ (d := d + 19) (s_X11_state__0_2 (d := d + 12) hR ht (by rw [q.2]; exact n0) (by rw [m2]; exact n0) VN VG (fun _ => ar_n0 hK) (fun _ => ar_n0 hK) hR)
      rw [e3, esec, view_eq (h' := rf_n h) (t' := t) hj hK hli.2.1 hli.2.2.1 hli.2.2.2.1 (rf_n83 h)] at V1
      exact ⟨_, _, _, V1, V2, hr.rf_n⟩
    · have V2 := v_X11_state_ (d := d + 19) (s_X11_state__0_1 (L := L) (xs := xs) (d := d + 12) hR ht (by rw [q.2]; exact n0) ((in_0_7 a).2 hb))
      have e : F_X10_viewOf h t (h.1 3 3) (h.1 3 4) a = -100 := by
        unfold F_X10_viewOf
        rw [if_neg (show ¬ a = (0 : Int32) from fun e => hb ⟨0, by omega, by omega, e⟩), if_neg (show ¬ a = (1 : Int32) from fun e => hb ⟨1, by omega, by omega, e⟩), if_neg (show ¬ a = (2 : Int32) from fun e => hb ⟨2, by omega, by omega, e⟩), if_neg (show ¬ a = (3 : Int32) from fun e => hb ⟨3, by omega, by omega, e⟩), if_neg (show ¬ a = (4 : Int32) from fun e => hb ⟨4, by omega, by omega, e⟩), if_neg (show ¬ a = (5 : Int32) from fun e => hb ⟨5, by omega, by omega, e⟩), if_neg (show ¬ a = (6 : Int32) from fun e => hb ⟨6, by omega, by omega, e⟩), if_neg (show ¬ a = (7 : Int32) from fun e => hb ⟨7, by omega, by omega, e⟩)]
      rw [e] at V1
      exact ⟨_, _, _, V1, V2, hr⟩
theorem op_out (a : Int32) : xm_opi (xm_X0 L xs) (d + 20) (Rel SI) 144 303 [.int a] := by
  intro h hr
  obtain ⟨t, ht, hR, hw, hli, hwk⟩ := hr.opn
  have V1 := e_X10_out (L := L) (xs := xs) (d := d + 18) (l1 := a) hR ht
  unfold F_X10_out at V1
  have n0 : ¬ (1 : Int32) = 0 := by decide
  by_cases hn : h.1 83 22 = 0
  · have q := ln_0 (t := t) hli.1 hn
    rw [q.1, if_neg n0] at V1
    exact ⟨_, _, _, V1, v_X11_out (d := d + 19) (s_X11_out_0_0 (d := d + 12) hR ht q.2), hr⟩
  · have q := ln_1 (t := t) hli.1 hw.1 hn
    rw [q.1, if_pos rfl] at V1
    by_cases hb : nb a 0 1
    · have m1 := (x_isPart a).1 hb
      have m2 := (in_0_1 a).1 hb
      obtain ⟨c, s, rm, hc, e23, hact, h0, h1, h3, hs, hK, er, hrm, e4, h14, e2, e3, esec, hac⟩ := told_of hw hli hwk hn
      have VN := v_now (L := L) (xs := xs) (d := d + 10) hR ht hc e23 hact h0 h1 h3 hs
      rw [m1, if_neg n0, e3, cx_twist hK] at V1
      rcases nb_01 hb with rfl | rfl
      · rw [if_pos rfl] at V1
        have V2 := v_X11_out (d := d + 19) (s_X11_out_0_2 (d := d + 12) hR ht (by rw [q.2]; exact n0) (by rw [m2]; exact n0) VN rfl)
        rw [cm_twist hK] at V2
        exact ⟨_, _, _, V1, V2, hr.rf_n⟩
      · rw [if_neg n0] at V1
        have V2 := v_X11_out (d := d + 19) (s_X11_out_0_3 (d := d + 12) hR ht (by rw [q.2]; exact n0) (by rw [m2]; exact n0) VN n0 hR)
        rw [cm_twist hK, show (9 : Int32) = nI 9 from rfl, sk_of (by omega), rf_n83] at V2
        rw [show (9 : Int32) = nI 9 from rfl, xk_of (by omega) h14] at V1
        exact ⟨_, _, _, V1, V2, hr.rf_n⟩
    · rw [(x_isPart a).2 hb, if_pos rfl] at V1
      exact ⟨_, _, _, V1, v_X11_out (d := d + 19) (s_X11_out_0_1 (d := d + 12) hR ht (by rw [q.2]; exact n0) ((in_0_1 a).2 hb)), hr⟩
end OPS
