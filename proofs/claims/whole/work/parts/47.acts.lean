/-! What is done now, on both sides. -/
theorem xm_rn {h : xm_H} {p k q : Nat} {x : Int32} (hq : q ≠ p) : (xm_si h p k x).1 q = h.1 q := if_neg hq
theorem xm_ra {h : xm_H} {p k : Nat} {x : Int32} : (xm_si h p k x).1 p k = x := by
  show (if p = p then upd (h.1 p) k x else h.1 p) k = x
  rw [if_pos rfl]
  exact if_pos rfl
theorem xm_rk {h : xm_H} {p k j : Nat} {x : Int32} (hj : j ≠ k) : (xm_si h p k x).1 p j = h.1 p j := by
  show (if p = p then upd (h.1 p) k x else h.1 p) j = h.1 p j
  rw [if_pos rfl]
  exact if_neg hj
theorem xm_r2 {h : xm_H} {p k : Nat} {x : Int32} : (xm_si h p k x).2 = h.2 := rfl
theorem xm_rl {h : xm_H} {p k : Nat} {x : Int64} : (xm_sl h p k x).1 = h.1 := rfl
theorem xm_rl2 {h : xm_H} {p k : Nat} {x : Int64} : (xm_sl h p k x).2.2 = h.2.2 := rfl
/-- as it was told -/
def rf_n (h : xm_H) : xm_H := xm_si (xm_si h 82 15 (h.1 83 3)) 82 16 (0 : Int32)
theorem rf_nq (h : xm_H) {q : Nat} (hq : q ≠ 82) : (rf_n h).1 q = h.1 q := by
  unfold rf_n
  rw [xm_rn hq, xm_rn hq]
theorem rf_n83 (h : xm_H) : (rf_n h).1 83 = h.1 83 := rf_nq h (by decide)
theorem rf_n2 (h : xm_H) : (rf_n h).2 = h.2 := rfl
theorem rf_n15 (h : xm_H) : (rf_n h).1 82 15 = h.1 83 3 := by
  unfold rf_n
  rw [xm_rk (by decide), xm_ra]
theorem rf_n16 (h : xm_H) : (rf_n h).1 82 16 = 0 := xm_ra
theorem rf_nk (h : xm_H) {j : Nat} (h1 : j ≠ 15) (h2 : j ≠ 16) : (rf_n h).1 82 j = h.1 82 j := by
  unfold rf_n
  rw [xm_rk h2, xm_rk h1]
section OPS
variable {L : Nat} {xs : Nat → Int32} {d : Nat} {SI : (Nat → Nat → Int32) → (Nat → Nat → Int64) → Prop}
theorem Rel.rf_n {h : xm_H} (hr : Rel SI h) : Rel SI (rf_n h) :=
  hr.frame rfl (fun q hq => rf_nq h (by unfold rl_cell at hq; omega)) (fun _ _ => rfl) (fun j _ => by rw [rf_nq h (by decide)]) (fun j hj => rf_nk h (by omega) (by omega))
theorem v_now {h : xm_H} {t c : Nat} {s : St} (hR : h.2.2 = xm_R0 t) (ht : t = 5 ∨ t = 13) (hc : c ≤ 60) (e23 : h.1 83 23 = nI c) (hact : ∀ j, j < c → rl_in (h.1 83 (50 + j)) 0 12) (h0 : rl_in (h.1 83 0) 1 48) (h1 : rl_in (h.1 83 1) 1 48) (h3 : rl_in (h.1 83 3) 1 60) (hs : rp (h.1 83) c = some s) : xm_V (xm_X0 L xs) xm_P (d + 9) 218 [.ref 82] h (some (.int (st_M s))) (rf_n h) := by
  have hR' : (rf_n h).2.2 = xm_R0 t := hR
  obtain ⟨rm, hr1, hr2, er⟩ := h3
  have loop : ∀ k i s', k + i = c → rp (h.1 83) i = some s' → xm_E (xm_X0 L xs) xm_P (d + 8) co_X11_now 7 [some (.ref 82), some (.int (st_M s')), some (.int (nI i))] [] (rf_n h) (some (.int (st_M s))) (rf_n h) := by
    intro k
    induction k with
    | zero =>
      intro i s' hk hs'
      have hic : i = c := by omega
      subst hic
      rw [hs] at hs'
      cases hs'
      exact s_X11_now_7_0 (d := d + 1) hR' ht (by rw [rf_n83, e23]; exact nI_le (by omega) (by omega))
    | succ k ih =>
      intro i s' hk hs'
      obtain ⟨s2, hs2⟩ := rp_pre hs (n := i + 1) (by omega)
      obtain ⟨a, -, ha, ea⟩ := hact i (by omega)
      have hK := rp_K h0 h1 i (fun j hj => hact j (by omega)) s' hs'
      have hdo : st_do rm a s' = some s2 := by
        simp only [rp, hs', Option.bind] at hs2
        rw [er, ea, nI_clamp (by omega), nI_clamp (by omega)] at hs2
        exact hs2
      have e50 : ((50 : Int32) + nI i) = nI (50 + i) := by rw [show (50 : Int32) = nI 50 from rfl, nI_add]
      apply s_X11_now_7_1 (d := d + 1) hR' ht
      · rw [rf_n83, e23]; exact nI_ge (by omega) (by omega)
      · rw [e50]; exact nI_in (by omega) (by omega)
      · rw [e50, nI_clamp (by omega), rf_n83, ea, (cm_done hK ha (rf_n16 h) ((rf_n15 h).trans er) (by omega)).1 s2 hdo, nI_1]
        exact ih (i + 1) s2 (by omega) hs2
  obtain ⟨a0, ha1, ha2, ea0⟩ := h0
  obtain ⟨b0, hb1, hb2, eb0⟩ := h1
  have e0 : F_X11_firstState (rf_n h) t = st_M ((h.1 83 0).toNatClampNeg, (h.1 83 1).toNatClampNeg, 0, 0, 2) := by
    unfold F_X11_firstState
    rw [rf_n83]
    exact cm_st2 (by rw [ea0, nI_clamp (by omega)]) (by rw [eb0, nI_clamp (by omega)]) rfl rfl tw00
  refine v_X11_now (d := d + 8) (s_X11_now_0_0 (d := d + 1) ht (v_X11_asTold (d := d + 7) (s_X11_asTold_0_0 (d := d) hR ht)) hR' ?_)
  show xm_E (xm_X0 L xs) xm_P (d + 8) co_X11_now 7 [some (.ref 82), some (.int (F_X11_firstState (rf_n h) t)), some (.int (nI 0))] [] (rf_n h) (some (.int (st_M s))) (rf_n h)
  rw [e0]
  exact loop c 0 _ (by omega) rfl
def mvT : List Nat := [0, 0, 1, 2, 2, 2, 3, 3, 4, 5, 0, 0]
theorem tk_tab : ∀ a, a < 10 → ((5 : Int32) + F_X11_movingOf (nI a)).toNatClampNeg = 5 + mvT.getD a 0 := by decide +kernel
theorem xk_tab : ∀ a, a < 12 → (xm_f_mov a).toNatClampNeg = mvT.getD a 0 ∧ mvT.getD a 0 < 6 := by decide +kernel
theorem mv_sc {w : Nat → Int32} {a : Nat} (ha : a < 12) : w (5 + mvT.getD a 0) = sc1 w a := by
  have : a = 0 ∨ a = 1 ∨ a = 2 ∨ a = 3 ∨ a = 4 ∨ a = 5 ∨ a = 6 ∨ a = 7 ∨ a = 8 ∨ a = 9 ∨ a = 10 ∨ a = 11 := by omega
  rcases this with rfl | rfl | rfl | rfl | rfl | rfl | rfl | rfl | rfl | rfl | rfl | rfl <;> rfl
theorem tk_of {h : xm_H} {t a : Nat} (ha : a ≤ 12) : F_X11_takesOf h t (nI a) = sc1 (h.1 83) a := by
  unfold F_X11_takesOf
  by_cases h12 : a = 12
  · subst h12
    rw [if_pos (by decide)]
    rfl
  · rw [if_neg (by rw [show (12 : Int32) = nI 12 from rfl, nI_eq (by omega) (by omega)]; exact h12)]
    by_cases h10 : 10 ≤ a
    · rw [if_pos (show (10 : Int32) ≤ nI a from nI_le h10 (by omega))]
      have : a = 10 ∨ a = 11 := by omega
      rcases this with rfl | rfl <;> rfl
    · rw [if_neg (show ¬ (10 : Int32) ≤ nI a from nI_ge (b := 10) (by omega) (by omega))]
      unfold F_X11_secondsOf
      rw [tk_tab a (by omega)]
      exact mv_sc (by omega)
theorem sk_of {h : xm_H} {t a : Nat} (ha : a < 10) : F_X11_secondsOf h t (nI a) = sc1 (h.1 83) a := by
  unfold F_X11_secondsOf
  rw [tk_tab a ha]
  exact mv_sc (by omega)
theorem xk_of {h : xm_H} {t a : Nat} (ha : a ≤ 12) (h14 : ∀ k, k < 6 → h.1 (t + 2) k = h.1 83 (5 + k)) : F_X0_secondsOf h t (nI a) = sc1 (h.1 83) a := by
  unfold F_X0_secondsOf
  rw [if_neg (nI_pos (by omega))]
  by_cases h12 : a = 12
  · subst h12
    rw [if_neg (show ¬ nI 12 < Int32.ofNat 12 from nI_nlt (by omega) (by omega))]
    rfl
  · rw [if_pos (show nI a < Int32.ofNat 12 from nI_lt (b := 12) (by omega) (by omega)), nI_clamp (by omega), (xk_tab a (by omega)).1, h14 _ (xk_tab a (by omega)).2]
    exact mv_sc (by omega)
theorem v_gone {h : xm_H} {t c : Nat} (hR : h.2.2 = xm_R0 t) (ht : t = 5 ∨ t = 13) (hc : c ≤ 60) (e23 : h.1 83 23 = nI c) (hact : ∀ j, j < c → rl_in (h.1 83 (50 + j)) 0 12) : xm_V (xm_X0 L xs) xm_P (d + 8) 232 [.ref 82] h (some (.int (sc (h.1 83) c))) h := by
  have loop : ∀ k i, k + i = c → xm_E (xm_X0 L xs) xm_P (d + 7) co_X11_secondsGone 4 [some (.ref 82), some (.int (sc (h.1 83) i)), some (.int (nI i))] [] h (some (.int (sc (h.1 83) c))) h := by
    intro k
    induction k with
    | zero =>
      intro i hk
      have hic : i = c := by omega
      subst hic
      exact s_X11_secondsGone_4_0 (d := d) hR ht (by rw [e23]; exact nI_le (by omega) (by omega))
    | succ k ih =>
      intro i hk
      obtain ⟨a, -, ha, ea⟩ := hact i (by omega)
      have e50 : ((50 : Int32) + nI i) = nI (50 + i) := by rw [show (50 : Int32) = nI 50 from rfl, nI_add]
      apply s_X11_secondsGone_4_1 (d := d) hR ht
      · rw [e23]; exact nI_ge (by omega) (by omega)
      · rw [e50]; exact nI_in (by omega) (by omega)
      · rw [e50, nI_clamp (by omega), ea, tk_of ha, nI_1]
        have e := ih (i + 1) (by omega)
        have e1 : sc (h.1 83) (i + 1) = sc (h.1 83) i + sc1 (h.1 83) a := by
          simp only [sc, ea]
          rw [nI_clamp (by omega)]
        rw [e1] at e
        exact e
  exact v_X11_secondsGone (d := d + 7) (s_X11_secondsGone_0_0 (d := d) (loop c 0 (by omega)))
/-- the class's heap behind an act -/
def hA (h : xm_H) (c a : Nat) (s' : St) : xm_H := xm_si (xm_si (xm_si (xm_si h 4 c (nI a)) 3 2 (nI (c + 1))) 3 3 (st_P s')) 3 4 (h.1 3 4 + sc1 (h.1 83) a)
theorem hA_q {h : xm_H} {c a : Nat} {s' : St} {q : Nat} (h3 : q ≠ 3) (h4 : q ≠ 4) : (hA h c a s').1 q = h.1 q := by
  unfold hA
  rw [xm_rn h3, xm_rn h3, xm_rn h3, xm_rn h4]
theorem hA_2 {h : xm_H} {c a : Nat} {s' : St} : (hA h c a s').2 = h.2 := rfl
theorem v_doAct0 {h : xm_H} {t c a rm : Nat} {s : St} (hR : h.2.2 = xm_R0 t) (ht : t = 5 ∨ t = 13) (hc : c ≤ 60) (e2 : h.1 3 2 = nI c) (e3 : h.1 3 3 = st_P s) (hK : st_K s) (e4 : h.1 t 4 = nI rm) (hrm : rm ≤ 60) (ha : a ≤ 12) (hn : c = 60 ∨ st_do rm a s = none) : xm_V (xm_X0 L xs) xm_P (d + 8) 51 [.ref 3, .int (nI a)] h (some (.int 0)) h := by
  by_cases q : c = 60
  · exact v_X9_doAct (d := d + 7) (s_X9_doAct_0_0 (d := d) (by rw [e2, q]; decide))
  · refine v_X9_doAct (d := d + 7) (s_X9_doAct_0_1 (d := d) hR ht (by rw [e2]; exact nI_ge (b := 60) (by omega) (by omega)) ?_)
    rw [e3, e4, cx_possible hK ha (by omega)]
    rcases hn with hn | hn
    · exact absurd hn q
    · rw [hn]
      rfl
theorem v_doAct1 {h : xm_H} {t c a rm : Nat} {s s' : St} (hR : h.2.2 = xm_R0 t) (ht : t = 5 ∨ t = 13) (hc : c < 60) (e2 : h.1 3 2 = nI c) (e3 : h.1 3 3 = st_P s) (hK : st_K s) (e4 : h.1 t 4 = nI rm) (hrm : rm ≤ 60) (ha : a ≤ 12) (h14 : ∀ k, k < 6 → h.1 (t + 2) k = h.1 83 (5 + k)) (hs : st_do rm a s = some s') : xm_V (xm_X0 L xs) xm_P (d + 8) 51 [.ref 3, .int (nI a)] h (some (.int 1)) (hA h c a s') := by
  have V := v_X9_doAct (d := d + 7) (s_X9_doAct_0_2 (L := L) (xs := xs) (d := d) (h := h) (l1 := nI a) hR ht (by rw [e2]; exact nI_ge (b := 60) (by omega) (by omega)) (by
    rw [e3, e4, cx_possible hK ha (by omega), hs]
    exact one_ne0) (by rw [e2]; exact nI_in (by omega) (by omega)))
  rw [xk_of ha (fun k hk => by
    simp (disch := omega) only [xm_rn]
    exact h14 k hk)] at V
  simp (disch := omega) only [xm_rn, xm_ra, xm_rk] at V
  rw [e2, nI_clamp (by omega), nI_1, e3, cx_folded hK ha hs] at V
  exact V
/-- the reference's heap behind an act -/
def hB (h : xm_H) (c a : Nat) : xm_H := xm_si (xm_si (rf_n h) 83 (50 + c) (nI a)) 83 23 (nI (c + 1))
theorem hB_q {h : xm_H} {c a : Nat} {q : Nat} (h1 : q ≠ 82) (h2 : q ≠ 83) : (hB h c a).1 q = h.1 q := by
  unfold hB
  rw [xm_rn h2, xm_rn h2, rf_nq h h1]
theorem hB_82 {h : xm_H} {c a j : Nat} (h1 : j ≠ 15) (h2 : j ≠ 16) : (hB h c a).1 82 j = h.1 82 j := by
  unfold hB
  rw [xm_rn (by decide), xm_rn (by decide), rf_nk h h1 h2]
theorem hB_23 {h : xm_H} {c a : Nat} : (hB h c a).1 83 23 = nI (c + 1) := xm_ra
theorem hB_c {h : xm_H} {c a : Nat} : (hB h c a).1 83 (50 + c) = nI a := by
  unfold hB
  rw [xm_rk (by omega), xm_ra]
theorem hB_k {h : xm_H} {c a k : Nat} (h1 : k ≠ 23) (h2 : k ≠ 50 + c) : (hB h c a).1 83 k = h.1 83 k := by
  unfold hB
  rw [xm_rk h1, xm_rk h2, rf_n83]
theorem v_does0 {h : xm_H} {t c a rm : Nat} {s : St} (hR : h.2.2 = xm_R0 t) (ht : t = 5 ∨ t = 13) (hc : c ≤ 60) (e23 : h.1 83 23 = nI c) (hact : ∀ j, j < c → rl_in (h.1 83 (50 + j)) 0 12) (h0 : rl_in (h.1 83 0) 1 48) (h1 : rl_in (h.1 83 1) 1 48) (h3 : rl_in (h.1 83 3) 1 60) (hs : rp (h.1 83) c = some s) (er : h.1 83 3 = nI rm) (hrm : rm ≤ 60) (ha : a ≤ 12) (hn : c = 60 ∨ st_do rm a s = none) : ∃ h2, (h2 = h ∨ h2 = rf_n h) ∧ xm_V (xm_X0 L xs) xm_P (d + 11) 242 [.ref 82, .int (nI a)] h (some (.int 0)) h2 := by
  by_cases q : c = 60
  · exact ⟨h, Or.inl rfl, v_X11_does (d := d + 10) (s_X11_does_0_0 (d := d + 3) hR ht (by rw [e23, q]; rfl))⟩
  · have hK := rp_K h0 h1 c hact s hs
    refine ⟨rf_n h, Or.inr rfl, v_X11_does (d := d + 10) (s_X11_does_0_1 (d := d + 3) hR ht (by rw [e23, show (60 : Int32) = nI 60 from rfl, nI_eq (by omega) (by omega)]; exact q) (v_now (d := d + 1) hR ht hc e23 hact h0 h1 h3 hs) hR ?_)⟩
    rcases hn with hn | hn
    · exact absurd hn q
    · exact (cm_done hK ha (rf_n16 h) ((rf_n15 h).trans er) (by omega)).2 hn
theorem st_M_n1 {s : St} (hK : st_K s) : ¬ st_M s = -1 := by
  intro e
  have h1 := st_md_lt hK.ok
  unfold st_M at e
  have h2 := congrArg Int32.toInt e
  rw [nI_toInt (by omega), show (-1 : Int32).toInt = -1 from rfl] at h2
  omega
theorem v_does1 {h : xm_H} {t c a rm : Nat} {s s' : St} (hR : h.2.2 = xm_R0 t) (ht : t = 5 ∨ t = 13) (hc : c < 60) (e23 : h.1 83 23 = nI c) (hact : ∀ j, j < c → rl_in (h.1 83 (50 + j)) 0 12) (h0 : rl_in (h.1 83 0) 1 48) (h1 : rl_in (h.1 83 1) 1 48) (h3 : rl_in (h.1 83 3) 1 60) (hs : rp (h.1 83) c = some s) (er : h.1 83 3 = nI rm) (hrm : rm ≤ 60) (ha : a ≤ 12) (hs' : st_do rm a s = some s') : xm_V (xm_X0 L xs) xm_P (d + 11) 242 [.ref 82, .int (nI a)] h (some (.int 1)) (hB h c a) := by
  have hK := rp_K h0 h1 c hact s hs
  have e23' : (rf_n h).1 83 23 = nI c := by rw [rf_n83]; exact e23
  have V := v_X11_does (d := d + 10) (s_X11_does_0_2 (L := L) (xs := xs) (d := d + 3) (h := h) (l1 := nI a) hR ht (by rw [e23, show (60 : Int32) = nI 60 from rfl, nI_eq (by omega) (by omega)]; omega) (v_now (d := d + 1) hR ht (by omega) e23 hact h0 h1 h3 hs) hR (by
    rw [(cm_done hK ha (rf_n16 h) ((rf_n15 h).trans er) (by omega)).1 s' hs']
    exact st_M_n1 (st_do_K hK hs' ha)) (by rw [e23', show (50 : Int32) = nI 50 from rfl, nI_add]; exact nI_in (by omega) (by omega)))
  rw [e23', show (50 : Int32) = nI 50 from rfl, nI_add, nI_clamp (by omega), xm_rk (by omega), e23', nI_1] at V
  exact V
end OPS
