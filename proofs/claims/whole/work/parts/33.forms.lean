/-! Closed forms of methods without loops that write nothing. Printed by wip/gen/fgen.py -/
theorem sw_out {x : Int32} {lo hi : Nat} (hh : hi < 2 ^ 31) (h : ∀ k, lo ≤ k → k ≤ hi → x ≠ nI k) : x.toInt < (lo : Int) ∨ (hi : Int) < x.toInt := by
  by_cases h0 : x < 0
  · left
    rw [Int32.lt_iff_toInt_lt] at h0
    have : (0 : Int32).toInt = 0 := by decide
    omega
  · obtain ⟨j, hj, rfl⟩ := nI_of h0
    rw [nI_toInt hj]
    by_cases h1 : lo ≤ j ∧ j ≤ hi
    · exact absurd rfl (h j h1.1 h1.2)
    · omega
def xm_f_act (j : Nat) : Int32 := xm_t_act.getD j 0
theorem xn_900 {L : Nat} {xs : Nat → Int32} : (xm_X0 L xs).1[900]? = none := rfl
theorem xe_900 {L : Nat} {xs : Nat → Int32} : (xm_X0 L xs).2.1 900 = some (0, 16, xm_f_act) := rfl
theorem xz_1 {L : Nat} {xs : Nat → Int32} : (xm_X0 L xs).2.2.2 1 = some (.ref 900) := rfl
def xm_f_mov (j : Nat) : Int32 := xm_t_mov.getD j 0
theorem xn_901 {L : Nat} {xs : Nat → Int32} : (xm_X0 L xs).1[901]? = none := rfl
theorem xe_901 {L : Nat} {xs : Nat → Int32} : (xm_X0 L xs).2.1 901 = some (0, 12, xm_f_mov) := rfl
theorem xz_2 {L : Nat} {xs : Nat → Int32} : (xm_X0 L xs).2.2.2 2 = some (.ref 901) := rfl
def xm_f_hem (j : Nat) : Int32 := xm_t_hem.getD j 0
theorem xn_902 {L : Nat} {xs : Nat → Int32} : (xm_X0 L xs).1[902]? = none := rfl
theorem xe_902 {L : Nat} {xs : Nat → Int32} : (xm_X0 L xs).2.1 902 = some (0, 45, xm_f_hem) := rfl
theorem xz_3 {L : Nat} {xs : Nat → Int32} : (xm_X0 L xs).2.2.2 3 = some (.ref 902) := rfl
theorem xs_0 {L : Nat} {xs : Nat → Int32} : (xm_X0 L xs).1[0]? = some (.inr 9) := rfl
theorem xs_1 {L : Nat} {xs : Nat → Int32} : (xm_X0 L xs).1[1]? = some (.inr 5) := rfl
theorem xs_3 {L : Nat} {xs : Nat → Int32} : (xm_X0 L xs).1[3]? = some (.inr 8) := rfl
theorem xs_4 {L : Nat} {xs : Nat → Int32} : (xm_X0 L xs).1[4]? = some (.inl (0, 60)) := rfl
theorem xs_21 {L : Nat} {xs : Nat → Int32} : (xm_X0 L xs).1[21]? = some (.inl (4, 3)) := rfl
theorem xs_52 {L : Nat} {xs : Nat → Int32} : (xm_X0 L xs).1[52]? = some (.inl (5, 4)) := rfl
theorem xs_61 {L : Nat} {xs : Nat → Int32} : (xm_X0 L xs).1[61]? = some (.inr 3) := rfl
theorem xs_62 {L : Nat} {xs : Nat → Int32} : (xm_X0 L xs).1[62]? = some (.inl (0, 2304)) := rfl
theorem xs_63 {L : Nat} {xs : Nat → Int32} : (xm_X0 L xs).1[63]? = some (.inl (0, 1440)) := rfl
theorem xs_64 {L : Nat} {xs : Nat → Int32} : (xm_X0 L xs).1[64]? = some (.inl (0, 640)) := rfl
theorem xs_65 {L : Nat} {xs : Nat → Int32} : (xm_X0 L xs).1[65]? = some (.inl (0, 6400)) := rfl
theorem xs_68 {L : Nat} {xs : Nat → Int32} : (xm_X0 L xs).1[68]? = some (.inl (0, 640)) := rfl
theorem xs_73 {L : Nat} {xs : Nat → Int32} : (xm_X0 L xs).1[73]? = some (.inr 6) := rfl
theorem xs_74 {L : Nat} {xs : Nat → Int32} : (xm_X0 L xs).1[74]? = some (.inr 4) := rfl
theorem xs_75 {L : Nat} {xs : Nat → Int32} : (xm_X0 L xs).1[75]? = some (.inl (0, 1805)) := rfl
theorem xs_76 {L : Nat} {xs : Nat → Int32} : (xm_X0 L xs).1[76]? = some (.inl (0, 5)) := rfl
theorem xs_78 {L : Nat} {xs : Nat → Int32} : (xm_X0 L xs).1[78]? = some (.inl (0, 6)) := rfl
theorem xs_82 {L : Nat} {xs : Nat → Int32} : (xm_X0 L xs).1[82]? = some (.inr 10) := rfl
theorem xs_83 {L : Nat} {xs : Nat → Int32} : (xm_X0 L xs).1[83]? = some (.inl (0, 110)) := rfl
theorem xs_86 {L : Nat} {xs : Nat → Int32} : (xm_X0 L xs).1[86]? = some (.inl (1, 1000)) := rfl
theorem xs_88 {L : Nat} {xs : Nat → Int32} : (xm_X0 L xs).1[88]? = some (.inl (0, 110)) := rfl
theorem xs_89 {L : Nat} {xs : Nat → Int32} : (xm_X0 L xs).1[89]? = some (.inl (0, 120050)) := rfl
theorem xs_90 {L : Nat} {xs : Nat → Int32} : (xm_X0 L xs).1[90]? = some (.inl (2, 120050)) := rfl
theorem xs_99 {L : Nat} {xs : Nat → Int32} : (xm_X0 L xs).1[99]? = some (.inl (0, 4)) := rfl
theorem xs_100 {L : Nat} {xs : Nat → Int32} : (xm_X0 L xs).1[100]? = some (.inl (0, 4)) := rfl
theorem xs_101 {L : Nat} {xs : Nat → Int32} : (xm_X0 L xs).1[101]? = some (.inl (3, 240)) := rfl
theorem xt_0 {L : Nat} {xs : Nat → Int32} {t : Nat} (ht : t = 5 ∨ t = 13) : (xm_X0 L xs).1[t]? = some (.inr 0) := by rcases ht with rfl | rfl <;> rfl
theorem xt_1 {L : Nat} {xs : Nat → Int32} {t : Nat} (ht : t = 5 ∨ t = 13) : (xm_X0 L xs).1[t + 1]? = some (.inr 7) := by rcases ht with rfl | rfl <;> rfl
theorem xt_2 {L : Nat} {xs : Nat → Int32} {t : Nat} (ht : t = 5 ∨ t = 13) : (xm_X0 L xs).1[t + 2]? = some (.inl (0, 6)) := by rcases ht with rfl | rfl <;> rfl
theorem xt_3 {L : Nat} {xs : Nat → Int32} {t : Nat} (ht : t = 5 ∨ t = 13) : (xm_X0 L xs).1[t + 3]? = some (.inl (0, 6)) := by rcases ht with rfl | rfl <;> rfl
theorem xt_4 {L : Nat} {xs : Nat → Int32} {t : Nat} (ht : t = 5 ∨ t = 13) : (xm_X0 L xs).1[t + 4]? = some (.inl (0, 6)) := by rcases ht with rfl | rfl <;> rfl
theorem xt_5 {L : Nat} {xs : Nat → Int32} {t : Nat} (ht : t = 5 ∨ t = 13) : (xm_X0 L xs).1[t + 5]? = some (.inl (0, 4)) := by rcases ht with rfl | rfl <;> rfl
theorem xt_6 {L : Nat} {xs : Nat → Int32} {t : Nat} (ht : t = 5 ∨ t = 13) : (xm_X0 L xs).1[t + 6]? = some (.inl (0, 4)) := by rcases ht with rfl | rfl <;> rfl
theorem rr_l0_0 {h : xm_H} {t : Nat} (hR : h.2.2 = xm_R0 t) : h.2.2 0 0 = some 1 := by rw [hR]; rfl
theorem rr_l0_1 {h : xm_H} {t : Nat} (hR : h.2.2 = xm_R0 t) : h.2.2 0 1 = some 3 := by rw [hR]; rfl
theorem rr_l0_3 {h : xm_H} {t : Nat} (hR : h.2.2 = xm_R0 t) : h.2.2 0 3 = some 21 := by rw [hR]; rfl
theorem rr_l0_4 {h : xm_H} {t : Nat} (hR : h.2.2 = xm_R0 t) : h.2.2 0 4 = some 52 := by rw [hR]; rfl
theorem rr_l0_5 {h : xm_H} {t : Nat} (hR : h.2.2 = xm_R0 t) : h.2.2 0 5 = some 61 := by rw [hR]; rfl
theorem rr_l0_7 {h : xm_H} {t : Nat} (hR : h.2.2 = xm_R0 t) : h.2.2 0 7 = some 74 := by rw [hR]; rfl
theorem rr_l3_0 {h : xm_H} {t : Nat} (hR : h.2.2 = xm_R0 t) : h.2.2 3 0 = some t := by rw [hR]; rfl
theorem rr_l3_1 {h : xm_H} {t : Nat} (hR : h.2.2 = xm_R0 t) : h.2.2 3 1 = some 4 := by rw [hR]; rfl
theorem rr_l61_0 {h : xm_H} {t : Nat} (hR : h.2.2 = xm_R0 t) : h.2.2 61 0 = some 62 := by rw [hR]; rfl
theorem rr_l61_1 {h : xm_H} {t : Nat} (hR : h.2.2 = xm_R0 t) : h.2.2 61 1 = some 63 := by rw [hR]; rfl
theorem rr_l61_2 {h : xm_H} {t : Nat} (hR : h.2.2 = xm_R0 t) : h.2.2 61 2 = some 64 := by rw [hR]; rfl
theorem rr_l61_3 {h : xm_H} {t : Nat} (hR : h.2.2 = xm_R0 t) : h.2.2 61 3 = some 65 := by rw [hR]; rfl
theorem rr_l61_6 {h : xm_H} {t : Nat} (hR : h.2.2 = xm_R0 t) : h.2.2 61 6 = some 68 := by rw [hR]; rfl
theorem rr_l74_0 {h : xm_H} {t : Nat} (hR : h.2.2 = xm_R0 t) : h.2.2 74 0 = some 75 := by rw [hR]; rfl
theorem rr_l74_1 {h : xm_H} {t : Nat} (hR : h.2.2 = xm_R0 t) : h.2.2 74 1 = some 76 := by rw [hR]; rfl
theorem rr_l74_3 {h : xm_H} {t : Nat} (hR : h.2.2 = xm_R0 t) : h.2.2 74 3 = some 78 := by rw [hR]; rfl
theorem rr_l82_1 {h : xm_H} {t : Nat} (hR : h.2.2 = xm_R0 t) : h.2.2 82 1 = some 83 := by rw [hR]; rfl
theorem rr_l82_4 {h : xm_H} {t : Nat} (hR : h.2.2 = xm_R0 t) : h.2.2 82 4 = some 86 := by rw [hR]; rfl
theorem rr_l82_14 {h : xm_H} {t : Nat} (hR : h.2.2 = xm_R0 t) : h.2.2 82 14 = some 88 := by rw [hR]; rfl
theorem rr_l82_20 {h : xm_H} {t : Nat} (hR : h.2.2 = xm_R0 t) : h.2.2 82 20 = some 89 := by rw [hR]; rfl
theorem rr_l82_21 {h : xm_H} {t : Nat} (hR : h.2.2 = xm_R0 t) : h.2.2 82 21 = some 90 := by rw [hR]; rfl
theorem rr_l82_35 {h : xm_H} {t : Nat} (hR : h.2.2 = xm_R0 t) : h.2.2 82 35 = some 99 := by rw [hR]; rfl
theorem rr_l82_36 {h : xm_H} {t : Nat} (hR : h.2.2 = xm_R0 t) : h.2.2 82 36 = some 100 := by rw [hR]; rfl
theorem rr_l82_37 {h : xm_H} {t : Nat} (hR : h.2.2 = xm_R0 t) : h.2.2 82 37 = some 101 := by rw [hR]; rfl
theorem rr_t0_12 {h : xm_H} {t : Nat} (hR : h.2.2 = xm_R0 t) (ht : t = 5 ∨ t = 13) : h.2.2 t 12 = some (t + 1) := by rw [hR]; rcases ht with rfl | rfl <;> rfl
theorem rr_t0_13 {h : xm_H} {t : Nat} (hR : h.2.2 = xm_R0 t) (ht : t = 5 ∨ t = 13) : h.2.2 t 13 = some (t + 2) := by rw [hR]; rcases ht with rfl | rfl <;> rfl
theorem rr_t0_14 {h : xm_H} {t : Nat} (hR : h.2.2 = xm_R0 t) (ht : t = 5 ∨ t = 13) : h.2.2 t 14 = some (t + 3) := by rw [hR]; rcases ht with rfl | rfl <;> rfl
theorem rr_t0_15 {h : xm_H} {t : Nat} (hR : h.2.2 = xm_R0 t) (ht : t = 5 ∨ t = 13) : h.2.2 t 15 = some (t + 4) := by rw [hR]; rcases ht with rfl | rfl <;> rfl
theorem rr_t0_16 {h : xm_H} {t : Nat} (hR : h.2.2 = xm_R0 t) (ht : t = 5 ∨ t = 13) : h.2.2 t 16 = some (t + 5) := by rw [hR]; rcases ht with rfl | rfl <;> rfl
theorem rr_t0_17 {h : xm_H} {t : Nat} (hR : h.2.2 = xm_R0 t) (ht : t = 5 ∨ t = 13) : h.2.2 t 17 = some (t + 6) := by rw [hR]; rcases ht with rfl | rfl <;> rfl
def F_X6_hasSpace (h : xm_H) (t : Nat) : Int32 := if (1000 : Int32) < (h.1 1 1) + (20 : Int32) then (0 : Int32) else (1 : Int32)
theorem f_X6_hasSpace {L : Nat} {xs : Nat → Int32} {d : Nat} {h : xm_H} {t : Nat} (hR : h.2.2 = xm_R0 t) (ht : t = 5 ∨ t = 13) : xm_V (xm_X0 L xs) xm_P (d + 1) 1 [.ref 1] h (some (.int (F_X6_hasSpace h t))) h := by
  unfold F_X6_hasSpace
  by_cases c0 : (1000 : Int32) < (h.1 1 1) + (20 : Int32)
  · rw [if_pos c0]
    exact v_X6_hasSpace (p_X6_hasSpace_0_0 xs_1 c0)
  · rw [if_neg c0]
    exact v_X6_hasSpace (p_X6_hasSpace_0_1 xs_1 c0)
def F_X6_isBlank (l0 : Int32) : Int32 := if l0 = (32 : Int32) then (1 : Int32) else (if l0 = (10 : Int32) then (1 : Int32) else (0 : Int32))
theorem f_X6_isBlank {L : Nat} {xs : Nat → Int32} {d : Nat} {h : xm_H} {l0 : Int32} : xm_V (xm_X0 L xs) xm_P (d + 1) 9 [.int l0] h (some (.int (F_X6_isBlank l0))) h := by
  unfold F_X6_isBlank
  by_cases c0 : l0 = (32 : Int32)
  · rw [if_pos c0]
    exact v_X6_isBlank (p_X6_isBlank_0_0 c0)
  · rw [if_neg c0]
    by_cases c1 : l0 = (10 : Int32)
    · rw [if_pos c1]
      exact v_X6_isBlank (p_X6_isBlank_0_1 c0 c1)
    · rw [if_neg c1]
      exact v_X6_isBlank (p_X6_isBlank_0_2 c0 c1)
def F_X6_kindOf (l0 : Int32) : Int32 := if l0 < (97 : Int32) then (if l0 < (48 : Int32) then (if l0 = (59 : Int32) then (3 : Int32) else (4 : Int32)) else (if (57 : Int32) < l0 then (if l0 = (59 : Int32) then (3 : Int32) else (4 : Int32)) else (2 : Int32))) else (if (122 : Int32) < l0 then (if l0 < (48 : Int32) then (if l0 = (59 : Int32) then (3 : Int32) else (4 : Int32)) else (if (57 : Int32) < l0 then (if l0 = (59 : Int32) then (3 : Int32) else (4 : Int32)) else (2 : Int32))) else (1 : Int32))
theorem f_X6_kindOf {L : Nat} {xs : Nat → Int32} {d : Nat} {h : xm_H} {l0 : Int32} : xm_V (xm_X0 L xs) xm_P (d + 1) 10 [.int l0] h (some (.int (F_X6_kindOf l0))) h := by
  unfold F_X6_kindOf
  by_cases c0 : l0 < (97 : Int32)
  · rw [if_pos c0]
    by_cases c1 : l0 < (48 : Int32)
    · rw [if_pos c1]
      by_cases c2 : l0 = (59 : Int32)
      · rw [if_pos c2]
        exact v_X6_kindOf (p_X6_kindOf_0_0 c0 c1 c2)
      · rw [if_neg c2]
        exact v_X6_kindOf (p_X6_kindOf_0_1 c0 c1 c2)
    · rw [if_neg c1]
      by_cases c3 : (57 : Int32) < l0
      · rw [if_pos c3]
        by_cases c4 : l0 = (59 : Int32)
        · rw [if_pos c4]
          exact v_X6_kindOf (p_X6_kindOf_0_2 c0 c1 c3 c4)
        · rw [if_neg c4]
          exact v_X6_kindOf (p_X6_kindOf_0_3 c0 c1 c3 c4)
      · rw [if_neg c3]
        exact v_X6_kindOf (p_X6_kindOf_0_4 c0 c1 c3)
  · rw [if_neg c0]
    by_cases c5 : (122 : Int32) < l0
    · rw [if_pos c5]
      by_cases c6 : l0 < (48 : Int32)
      · rw [if_pos c6]
        by_cases c7 : l0 = (59 : Int32)
        · rw [if_pos c7]
          exact v_X6_kindOf (p_X6_kindOf_0_5 c0 c5 c6 c7)
        · rw [if_neg c7]
          exact v_X6_kindOf (p_X6_kindOf_0_6 c0 c5 c6 c7)
      · rw [if_neg c6]
        by_cases c8 : (57 : Int32) < l0
        · rw [if_pos c8]
          by_cases c9 : l0 = (59 : Int32)
          · rw [if_pos c9]
            exact v_X6_kindOf (p_X6_kindOf_0_7 c0 c5 c6 c8 c9)
          · rw [if_neg c9]
            exact v_X6_kindOf (p_X6_kindOf_0_8 c0 c5 c6 c8 c9)
        · rw [if_neg c8]
          exact v_X6_kindOf (p_X6_kindOf_0_9 c0 c5 c6 c8)
    · rw [if_neg c5]
      exact v_X6_kindOf (p_X6_kindOf_0_10 c0 c5)
def F_X6_goesOn (h : xm_H) (t : Nat) : Int32 := if h.1 1 2 = (0 : Int32) then (if h.1 1 6 = (0 : Int32) then (0 : Int32) else (1 : Int32)) else (0 : Int32)
theorem f_X6_goesOn {L : Nat} {xs : Nat → Int32} {d : Nat} {h : xm_H} {t : Nat} (hR : h.2.2 = xm_R0 t) (ht : t = 5 ∨ t = 13) : xm_V (xm_X0 L xs) xm_P (d + 1) 11 [.ref 1] h (some (.int (F_X6_goesOn h t))) h := by
  unfold F_X6_goesOn
  by_cases c0 : h.1 1 2 = (0 : Int32)
  · rw [if_pos c0]
    by_cases c1 : h.1 1 6 = (0 : Int32)
    · rw [if_pos c1]
      exact v_X6_goesOn (p_X6_goesOn_0_0 xs_1 c0 c1)
    · rw [if_neg c1]
      exact v_X6_goesOn (p_X6_goesOn_0_1 xs_1 c0 c1)
  · rw [if_neg c0]
    exact v_X6_goesOn (p_X6_goesOn_0_2 xs_1 c0)
def F_X5_pack (l0 : Int32) (l1 : Int32) (l2 : Int32) (l3 : Int32) (l4 : Int32) : Int32 := ((((l0 ||| (l1 <<< ((6 : Int32) &&& 31))) ||| (l2 <<< ((12 : Int32) &&& 31))) ||| (l3 <<< ((15 : Int32) &&& 31))) ||| ((l4 + (2 : Int32)) <<< ((16 : Int32) &&& 31)))
theorem f_X5_pack {L : Nat} {xs : Nat → Int32} {d : Nat} {h : xm_H} {l0 : Int32} {l1 : Int32} {l2 : Int32} {l3 : Int32} {l4 : Int32} : xm_V (xm_X0 L xs) xm_P (d + 1) 33 [.int l0, .int l1, .int l2, .int l3, .int l4] h (some (.int (F_X5_pack l0 l1 l2 l3 l4))) h := by
  unfold F_X5_pack
  exact v_X5_pack (p_X5_pack_0_0 )
def F_X10_fault (h : xm_H) (t : Nat) (l1 : Int32) : Int32 := if l1 = (0 : Int32) then (h.1 1 2) else (if l1 = (1 : Int32) then (h.1 1 3) else (-1 : Int32))
theorem f_X10_fault {L : Nat} {xs : Nat → Int32} {d : Nat} {h : xm_H} {t : Nat} (hR : h.2.2 = xm_R0 t) (ht : t = 5 ∨ t = 13) {l1 : Int32} : xm_V (xm_X0 L xs) xm_P (d + 1) 34 [.ref 0, .int l1] h (some (.int (F_X10_fault h t l1))) h := by
  unfold F_X10_fault
  by_cases c0 : l1 = (0 : Int32)
  · rw [if_pos c0]
    exact v_X10_fault (p_X10_fault_0_0 c0 xs_0 (rr_l0_0 hR) xs_1)
  · rw [if_neg c0]
    by_cases c1 : l1 = (1 : Int32)
    · rw [if_pos c1]
      exact v_X10_fault (p_X10_fault_0_1 c0 c1 xs_0 (rr_l0_0 hR) xs_1)
    · rw [if_neg c1]
      exact v_X10_fault (p_X10_fault_0_2 c0 c1)
def F_X9_isNone (h : xm_H) (t : Nat) : Int32 := if h.1 t 0 = (0 : Int32) then (1 : Int32) else (0 : Int32)
theorem f_X9_isNone {L : Nat} {xs : Nat → Int32} {d : Nat} {h : xm_H} {t : Nat} (hR : h.2.2 = xm_R0 t) (ht : t = 5 ∨ t = 13) : xm_V (xm_X0 L xs) xm_P (d + 1) 36 [.ref 3] h (some (.int (F_X9_isNone h t))) h := by
  unfold F_X9_isNone
  by_cases c0 : h.1 t 0 = (0 : Int32)
  · rw [if_pos c0]
    exact v_X9_isNone (p_X9_isNone_0_0 xs_3 (rr_l3_0 hR) (xt_0 ht) c0)
  · rw [if_neg c0]
    exact v_X9_isNone (p_X9_isNone_0_1 xs_3 (rr_l3_0 hR) (xt_0 ht) c0)
def F_X5_longOf (l0 : Int32) : Int32 := (l0 &&& (63 : Int32))
theorem f_X5_longOf {L : Nat} {xs : Nat → Int32} {d : Nat} {h : xm_H} {l0 : Int32} : xm_V (xm_X0 L xs) xm_P (d + 1) 38 [.int l0] h (some (.int (F_X5_longOf l0))) h := by
  unfold F_X5_longOf
  exact v_X5_longOf (p_X5_longOf_0_0 )
def F_X5_wideOf (l0 : Int32) : Int32 := ((l0 >>> ((6 : Int32) &&& 31)) &&& (63 : Int32))
theorem f_X5_wideOf {L : Nat} {xs : Nat → Int32} {d : Nat} {h : xm_H} {l0 : Int32} : xm_V (xm_X0 L xs) xm_P (d + 1) 39 [.int l0] h (some (.int (F_X5_wideOf l0))) h := by
  unfold F_X5_wideOf
  exact v_X5_wideOf (p_X5_wideOf_0_0 )
def F_X5_hemOf (l0 : Int32) : Int32 := ((l0 >>> ((12 : Int32) &&& 31)) &&& (7 : Int32))
theorem f_X5_hemOf {L : Nat} {xs : Nat → Int32} {d : Nat} {h : xm_H} {l0 : Int32} : xm_V (xm_X0 L xs) xm_P (d + 1) 40 [.int l0] h (some (.int (F_X5_hemOf l0))) h := by
  unfold F_X5_hemOf
  exact v_X5_hemOf (p_X5_hemOf_0_0 )
def F_X5_faceOf (l0 : Int32) : Int32 := ((l0 >>> ((15 : Int32) &&& 31)) &&& (1 : Int32))
theorem f_X5_faceOf {L : Nat} {xs : Nat → Int32} {d : Nat} {h : xm_H} {l0 : Int32} : xm_V (xm_X0 L xs) xm_P (d + 1) 41 [.int l0] h (some (.int (F_X5_faceOf l0))) h := by
  unfold F_X5_faceOf
  exact v_X5_faceOf (p_X5_faceOf_0_0 )
def F_X5_twistOf (l0 : Int32) : Int32 := (((l0 >>> ((16 : Int32) &&& 31)) &&& (7 : Int32)) - (2 : Int32))
theorem f_X5_twistOf {L : Nat} {xs : Nat → Int32} {d : Nat} {h : xm_H} {l0 : Int32} : xm_V (xm_X0 L xs) xm_P (d + 1) 42 [.int l0] h (some (.int (F_X5_twistOf l0))) h := by
  unfold F_X5_twistOf
  exact v_X5_twistOf (p_X5_twistOf_0_0 )
def F_X10_isMove (l0 : Int32) : Int32 := if l0 < (0 : Int32) then (0 : Int32) else (if (10 : Int32) ≤ l0 then (0 : Int32) else (1 : Int32))
theorem f_X10_isMove {L : Nat} {xs : Nat → Int32} {d : Nat} {h : xm_H} {l0 : Int32} : xm_V (xm_X0 L xs) xm_P (d + 1) 46 [.int l0] h (some (.int (F_X10_isMove l0))) h := by
  unfold F_X10_isMove
  by_cases c0 : l0 < (0 : Int32)
  · rw [if_pos c0]
    exact v_X10_isMove (p_X10_isMove_0_0 c0)
  · rw [if_neg c0]
    by_cases c1 : (10 : Int32) ≤ l0
    · rw [if_pos c1]
      exact v_X10_isMove (p_X10_isMove_0_1 c0 c1)
    · rw [if_neg c1]
      exact v_X10_isMove (p_X10_isMove_0_2 c0 c1)
def F_X5_divides (l0 : Int32) (l1 : Int32) (l2 : Int32) : Int32 := if l2 = (0 : Int32) then (if l1 - l1 / (2 : Int32) * (2 : Int32) = (0 : Int32) then (1 : Int32) else (0 : Int32)) else (if l2 = (1 : Int32) then (if l1 - l1 / (2 : Int32) * (2 : Int32) = (0 : Int32) then (1 : Int32) else (0 : Int32)) else (if l2 = (2 : Int32) then (if l1 - l1 / (3 : Int32) * (3 : Int32) = (0 : Int32) then (1 : Int32) else (0 : Int32)) else (if l2 = (3 : Int32) then (if l0 - l0 / (2 : Int32) * (2 : Int32) = (0 : Int32) then (1 : Int32) else (0 : Int32)) else (if l2 = (4 : Int32) then (if l0 - l0 / (2 : Int32) * (2 : Int32) = (0 : Int32) then (1 : Int32) else (0 : Int32)) else (if l2 = (5 : Int32) then (if l0 - l0 / (2 : Int32) * (2 : Int32) = (0 : Int32) then (1 : Int32) else (0 : Int32)) else (if l2 = (6 : Int32) then (1 : Int32) else (if l2 = (7 : Int32) then (1 : Int32) else (if l2 = (8 : Int32) then (1 : Int32) else (if l2 = (9 : Int32) then (1 : Int32) else (if l2 = (10 : Int32) then (if l1 - l1 / (2 : Int32) * (2 : Int32) = (0 : Int32) then (1 : Int32) else (0 : Int32)) else (if l2 = (11 : Int32) then (if l1 - l1 / (2 : Int32) * (2 : Int32) = (0 : Int32) then (1 : Int32) else (0 : Int32)) else (1 : Int32))))))))))))
theorem f_X5_divides {L : Nat} {xs : Nat → Int32} {d : Nat} {h : xm_H} {l0 : Int32} {l1 : Int32} {l2 : Int32} : xm_V (xm_X0 L xs) xm_P (d + 1) 48 [.int l0, .int l1, .int l2] h (some (.int (F_X5_divides l0 l1 l2))) h := by
  unfold F_X5_divides
  by_cases c0 : l2 = (0 : Int32)
  · rw [if_pos c0]
    by_cases c1 : l1 - l1 / (2 : Int32) * (2 : Int32) = (0 : Int32)
    · rw [if_pos c1]
      exact v_X5_divides (p_X5_divides_0_0 c0 c1)
    · rw [if_neg c1]
      exact v_X5_divides (p_X5_divides_0_1 c0 c1)
  · rw [if_neg c0]
    by_cases c2 : l2 = (1 : Int32)
    · rw [if_pos c2]
      by_cases c3 : l1 - l1 / (2 : Int32) * (2 : Int32) = (0 : Int32)
      · rw [if_pos c3]
        exact v_X5_divides (p_X5_divides_0_2 c2 c3)
      · rw [if_neg c3]
        exact v_X5_divides (p_X5_divides_0_3 c2 c3)
    · rw [if_neg c2]
      by_cases c4 : l2 = (2 : Int32)
      · rw [if_pos c4]
        by_cases c5 : l1 - l1 / (3 : Int32) * (3 : Int32) = (0 : Int32)
        · rw [if_pos c5]
          exact v_X5_divides (p_X5_divides_0_4 c4 c5)
        · rw [if_neg c5]
          exact v_X5_divides (p_X5_divides_0_5 c4 c5)
      · rw [if_neg c4]
        by_cases c6 : l2 = (3 : Int32)
        · rw [if_pos c6]
          by_cases c7 : l0 - l0 / (2 : Int32) * (2 : Int32) = (0 : Int32)
          · rw [if_pos c7]
            exact v_X5_divides (p_X5_divides_0_6 c6 c7)
          · rw [if_neg c7]
            exact v_X5_divides (p_X5_divides_0_7 c6 c7)
        · rw [if_neg c6]
          by_cases c8 : l2 = (4 : Int32)
          · rw [if_pos c8]
            by_cases c9 : l0 - l0 / (2 : Int32) * (2 : Int32) = (0 : Int32)
            · rw [if_pos c9]
              exact v_X5_divides (p_X5_divides_0_8 c8 c9)
            · rw [if_neg c9]
              exact v_X5_divides (p_X5_divides_0_9 c8 c9)
          · rw [if_neg c8]
            by_cases c10 : l2 = (5 : Int32)
            · rw [if_pos c10]
              by_cases c11 : l0 - l0 / (2 : Int32) * (2 : Int32) = (0 : Int32)
              · rw [if_pos c11]
                exact v_X5_divides (p_X5_divides_0_10 c10 c11)
              · rw [if_neg c11]
                exact v_X5_divides (p_X5_divides_0_11 c10 c11)
            · rw [if_neg c10]
              by_cases c12 : l2 = (6 : Int32)
              · rw [if_pos c12]
                exact v_X5_divides (p_X5_divides_0_12 c12)
              · rw [if_neg c12]
                by_cases c13 : l2 = (7 : Int32)
                · rw [if_pos c13]
                  exact v_X5_divides (p_X5_divides_0_13 c13)
                · rw [if_neg c13]
                  by_cases c14 : l2 = (8 : Int32)
                  · rw [if_pos c14]
                    exact v_X5_divides (p_X5_divides_0_14 c14)
                  · rw [if_neg c14]
                    by_cases c15 : l2 = (9 : Int32)
                    · rw [if_pos c15]
                      exact v_X5_divides (p_X5_divides_0_15 c15)
                    · rw [if_neg c15]
                      by_cases c16 : l2 = (10 : Int32)
                      · rw [if_pos c16]
                        by_cases c17 : l1 - l1 / (2 : Int32) * (2 : Int32) = (0 : Int32)
                        · rw [if_pos c17]
                          exact v_X5_divides (p_X5_divides_0_16 c16 c17)
                        · rw [if_neg c17]
                          exact v_X5_divides (p_X5_divides_0_17 c16 c17)
                      · rw [if_neg c16]
                        by_cases c18 : l2 = (11 : Int32)
                        · rw [if_pos c18]
                          by_cases c19 : l1 - l1 / (2 : Int32) * (2 : Int32) = (0 : Int32)
                          · rw [if_pos c19]
                            exact v_X5_divides (p_X5_divides_0_18 c18 c19)
                          · rw [if_neg c19]
                            exact v_X5_divides (p_X5_divides_0_19 c18 c19)
                        · rw [if_neg c18]
                          exact v_X5_divides (p_X5_divides_0_20 (sw_out (lo := 0) (hi := 11) (by decide) (fun k hk1 hk2 => by
                              have hk : k = 0 ∨ k = 1 ∨ k = 2 ∨ k = 3 ∨ k = 4 ∨ k = 5 ∨ k = 6 ∨ k = 7 ∨ k = 8 ∨ k = 9 ∨ k = 10 ∨ k = 11 := by omega
                              rcases hk with rfl | rfl | rfl | rfl | rfl | rfl | rfl | rfl | rfl | rfl | rfl | rfl <;> first | exact c0 | exact c2 | exact c4 | exact c6 | exact c8 | exact c10 | exact c12 | exact c13 | exact c14 | exact c15 | exact c16 | exact c18)))
def F_X5_hemBehind (l0 : Int32) (l1 : Int32) : Int32 := if l1 < (0 : Int32) then l0 else (if (8 : Int32) < l1 then l0 else (if l0 < (5 : Int32) then (xm_f_hem (((l1 * (5 : Int32)) + l0).toNatClampNeg)) else l0))
theorem f_X5_hemBehind {L : Nat} {xs : Nat → Int32} {d : Nat} {h : xm_H} {l0 : Int32} {l1 : Int32} (g0 : (¬ (l1 < (0 : Int32))) → (¬ ((8 : Int32) < l1)) → (l0 < (5 : Int32)) → ¬ ((l1 * (5 : Int32)) + l0 < 0 ∨ 45 ≤ ((l1 * (5 : Int32)) + l0).toNatClampNeg)) : xm_V (xm_X0 L xs) xm_P (d + 1) 53 [.int l0, .int l1] h (some (.int (F_X5_hemBehind l0 l1))) h := by
  unfold F_X5_hemBehind
  by_cases c0 : l1 < (0 : Int32)
  · rw [if_pos c0]
    exact v_X5_hemBehind (p_X5_hemBehind_0_0 c0)
  · rw [if_neg c0]
    by_cases c1 : (8 : Int32) < l1
    · rw [if_pos c1]
      exact v_X5_hemBehind (p_X5_hemBehind_0_1 c0 c1)
    · rw [if_neg c1]
      by_cases c2 : l0 < (5 : Int32)
      · rw [if_pos c2]
        exact v_X5_hemBehind (p_X5_hemBehind_0_2 c0 c1 c2 xz_3 xn_902 xe_902 (g0 c0 c1 c2))
      · rw [if_neg c2]
        exact v_X5_hemBehind (p_X5_hemBehind_0_3 c0 c1 c2)
def F_X0_secondsOf (h : xm_H) (t : Nat) (l1 : Int32) : Int32 := if l1 < (0 : Int32) then (0 : Int32) else (if l1 < Int32.ofNat 12 then (h.1 (t + 2) ((xm_f_mov l1.toNatClampNeg).toNatClampNeg)) else (0 : Int32))
theorem f_X0_secondsOf {L : Nat} {xs : Nat → Int32} {d : Nat} {h : xm_H} {t : Nat} (hR : h.2.2 = xm_R0 t) (ht : t = 5 ∨ t = 13) {l1 : Int32} (g0 : (¬ (l1 < (0 : Int32))) → (l1 < Int32.ofNat 12) → ¬ (l1 < 0 ∨ 12 ≤ l1.toNatClampNeg)) (g1 : (¬ (l1 < (0 : Int32))) → (l1 < Int32.ofNat 12) → ¬ (xm_f_mov l1.toNatClampNeg < 0 ∨ 6 ≤ (xm_f_mov l1.toNatClampNeg).toNatClampNeg)) : xm_V (xm_X0 L xs) xm_P (d + 1) 54 [.ref t, .int l1] h (some (.int (F_X0_secondsOf h t l1))) h := by
  unfold F_X0_secondsOf
  by_cases c0 : l1 < (0 : Int32)
  · rw [if_pos c0]
    exact v_X0_secondsOf (p_X0_secondsOf_0_0 c0)
  · rw [if_neg c0]
    by_cases c1 : l1 < Int32.ofNat 12
    · rw [if_pos c1]
      exact v_X0_secondsOf (p_X0_secondsOf_0_1 c0 xz_2 xn_901 xe_901 c1 (xt_0 ht) (rr_t0_13 hR ht) (g0 c0 c1) (xt_2 ht) (g1 c0 c1))
    · rw [if_neg c1]
      exact v_X0_secondsOf (p_X0_secondsOf_0_2 c0 xz_2 xn_901 xe_901 c1)
def F_X10_isCall (h : xm_H) (t : Nat) (l1 : Int32) : Int32 := if l1 < (0 : Int32) then (0 : Int32) else (if h.1 t 6 ≤ l1 then (0 : Int32) else (1 : Int32))
theorem f_X10_isCall {L : Nat} {xs : Nat → Int32} {d : Nat} {h : xm_H} {t : Nat} (hR : h.2.2 = xm_R0 t) (ht : t = 5 ∨ t = 13) {l1 : Int32} : xm_V (xm_X0 L xs) xm_P (d + 1) 56 [.ref 0, .int l1] h (some (.int (F_X10_isCall h t l1))) h := by
  unfold F_X10_isCall
  by_cases c0 : l1 < (0 : Int32)
  · rw [if_pos c0]
    exact v_X10_isCall (p_X10_isCall_0_0 c0)
  · rw [if_neg c0]
    by_cases c1 : h.1 t 6 ≤ l1
    · rw [if_pos c1]
      exact v_X10_isCall (p_X10_isCall_0_1 c0 xs_0 (rr_l0_1 hR) xs_3 (rr_l3_0 hR) (xt_0 ht) c1)
    · rw [if_neg c1]
      exact v_X10_isCall (p_X10_isCall_0_2 c0 xs_0 (rr_l0_1 hR) xs_3 (rr_l3_0 hR) (xt_0 ht) c1)
def F_X0_herAct (h : xm_H) (t : Nat) (l1 : Int32) : Int32 := if l1 < (0 : Int32) then (-1 : Int32) else (if Int32.ofNat 6 ≤ l1 then (-1 : Int32) else (h.1 (t + 3) l1.toNatClampNeg))
theorem f_X0_herAct {L : Nat} {xs : Nat → Int32} {d : Nat} {h : xm_H} {t : Nat} (hR : h.2.2 = xm_R0 t) (ht : t = 5 ∨ t = 13) {l1 : Int32} (g0 : (¬ (l1 < (0 : Int32))) → (¬ (Int32.ofNat 6 ≤ l1)) → ¬ (l1 < 0 ∨ 6 ≤ l1.toNatClampNeg)) : xm_V (xm_X0 L xs) xm_P (d + 1) 58 [.ref t, .int l1] h (some (.int (F_X0_herAct h t l1))) h := by
  unfold F_X0_herAct
  by_cases c0 : l1 < (0 : Int32)
  · rw [if_pos c0]
    exact v_X0_herAct (p_X0_herAct_0_0 c0)
  · rw [if_neg c0]
    by_cases c1 : Int32.ofNat 6 ≤ l1
    · rw [if_pos c1]
      exact v_X0_herAct (p_X0_herAct_0_1 c0 (xt_0 ht) (rr_t0_14 hR ht) (xt_3 ht) c1)
    · rw [if_neg c1]
      exact v_X0_herAct (p_X0_herAct_0_2 c0 (xt_0 ht) (rr_t0_14 hR ht) (xt_3 ht) c1 (g0 c0 c1))
def F_X0_hisAct (h : xm_H) (t : Nat) (l1 : Int32) : Int32 := if l1 < (0 : Int32) then (-1 : Int32) else (if Int32.ofNat 6 ≤ l1 then (-1 : Int32) else (h.1 (t + 4) l1.toNatClampNeg))
theorem f_X0_hisAct {L : Nat} {xs : Nat → Int32} {d : Nat} {h : xm_H} {t : Nat} (hR : h.2.2 = xm_R0 t) (ht : t = 5 ∨ t = 13) {l1 : Int32} (g0 : (¬ (l1 < (0 : Int32))) → (¬ (Int32.ofNat 6 ≤ l1)) → ¬ (l1 < 0 ∨ 6 ≤ l1.toNatClampNeg)) : xm_V (xm_X0 L xs) xm_P (d + 1) 59 [.ref t, .int l1] h (some (.int (F_X0_hisAct h t l1))) h := by
  unfold F_X0_hisAct
  by_cases c0 : l1 < (0 : Int32)
  · rw [if_pos c0]
    exact v_X0_hisAct (p_X0_hisAct_0_0 c0)
  · rw [if_neg c0]
    by_cases c1 : Int32.ofNat 6 ≤ l1
    · rw [if_pos c1]
      exact v_X0_hisAct (p_X0_hisAct_0_1 c0 (xt_0 ht) (rr_t0_15 hR ht) (xt_4 ht) c1)
    · rw [if_neg c1]
      exact v_X0_hisAct (p_X0_hisAct_0_2 c0 (xt_0 ht) (rr_t0_15 hR ht) (xt_4 ht) c1 (g0 c0 c1))
def F_X0_actOfBoth (l0 : Int32) (l1 : Int32) : Int32 := if l0 < (0 : Int32) then (12 : Int32) else (if (4 : Int32) ≤ l0 then (12 : Int32) else (if l1 < (0 : Int32) then (12 : Int32) else (if l1 < (4 : Int32) then (xm_f_act (((l0 * (4 : Int32)) + l1).toNatClampNeg)) else (12 : Int32))))
theorem f_X0_actOfBoth {L : Nat} {xs : Nat → Int32} {d : Nat} {h : xm_H} {l0 : Int32} {l1 : Int32} (g0 : (¬ (l0 < (0 : Int32))) → (¬ ((4 : Int32) ≤ l0)) → (¬ (l1 < (0 : Int32))) → (l1 < (4 : Int32)) → ¬ ((l0 * (4 : Int32)) + l1 < 0 ∨ 16 ≤ ((l0 * (4 : Int32)) + l1).toNatClampNeg)) : xm_V (xm_X0 L xs) xm_P (d + 1) 60 [.int l0, .int l1] h (some (.int (F_X0_actOfBoth l0 l1))) h := by
  unfold F_X0_actOfBoth
  by_cases c0 : l0 < (0 : Int32)
  · rw [if_pos c0]
    exact v_X0_actOfBoth (p_X0_actOfBoth_0_0 c0)
  · rw [if_neg c0]
    by_cases c1 : (4 : Int32) ≤ l0
    · rw [if_pos c1]
      exact v_X0_actOfBoth (p_X0_actOfBoth_0_1 c0 c1)
    · rw [if_neg c1]
      by_cases c2 : l1 < (0 : Int32)
      · rw [if_pos c2]
        exact v_X0_actOfBoth (p_X0_actOfBoth_0_2 c0 c1 c2)
      · rw [if_neg c2]
        by_cases c3 : l1 < (4 : Int32)
        · rw [if_pos c3]
          exact v_X0_actOfBoth (p_X0_actOfBoth_0_3 c0 c1 c2 c3 xz_1 xn_900 xe_900 (g0 c0 c1 c2 c3))
        · rw [if_neg c3]
          exact v_X0_actOfBoth (p_X0_actOfBoth_0_4 c0 c1 c2 c3)
def F_X9_doneAt (h : xm_H) (t : Nat) (l1 : Int32) : Int32 := if l1 < (0 : Int32) then (-1 : Int32) else (if h.1 3 2 ≤ l1 then (-1 : Int32) else (if (60 : Int32) ≤ l1 then (-1 : Int32) else (h.1 4 l1.toNatClampNeg)))
theorem f_X9_doneAt {L : Nat} {xs : Nat → Int32} {d : Nat} {h : xm_H} {t : Nat} (hR : h.2.2 = xm_R0 t) (ht : t = 5 ∨ t = 13) {l1 : Int32} (g0 : (¬ (l1 < (0 : Int32))) → (¬ (h.1 3 2 ≤ l1)) → (¬ ((60 : Int32) ≤ l1)) → ¬ (l1 < 0 ∨ 60 ≤ l1.toNatClampNeg)) : xm_V (xm_X0 L xs) xm_P (d + 1) 64 [.ref 3, .int l1] h (some (.int (F_X9_doneAt h t l1))) h := by
  unfold F_X9_doneAt
  by_cases c0 : l1 < (0 : Int32)
  · rw [if_pos c0]
    exact v_X9_doneAt (p_X9_doneAt_0_0 c0)
  · rw [if_neg c0]
    by_cases c1 : h.1 3 2 ≤ l1
    · rw [if_pos c1]
      exact v_X9_doneAt (p_X9_doneAt_0_1 c0 xs_3 c1)
    · rw [if_neg c1]
      by_cases c2 : (60 : Int32) ≤ l1
      · rw [if_pos c2]
        exact v_X9_doneAt (p_X9_doneAt_0_2 c0 xs_3 c1 c2)
      · rw [if_neg c2]
        exact v_X9_doneAt (p_X9_doneAt_0_3 c0 xs_3 c1 c2 (rr_l3_1 hR) xs_4 (g0 c0 c1 c2))
def F_X10_isSlot (l0 : Int32) : Int32 := if l0 < (0 : Int32) then (0 : Int32) else (if (4 : Int32) ≤ l0 then (0 : Int32) else (1 : Int32))
theorem f_X10_isSlot {L : Nat} {xs : Nat → Int32} {d : Nat} {h : xm_H} {l0 : Int32} : xm_V (xm_X0 L xs) xm_P (d + 1) 68 [.int l0] h (some (.int (F_X10_isSlot l0))) h := by
  unfold F_X10_isSlot
  by_cases c0 : l0 < (0 : Int32)
  · rw [if_pos c0]
    exact v_X10_isSlot (p_X10_isSlot_0_0 c0)
  · rw [if_neg c0]
    by_cases c1 : (4 : Int32) ≤ l0
    · rw [if_pos c1]
      exact v_X10_isSlot (p_X10_isSlot_0_1 c0 c1)
    · rw [if_neg c1]
      exact v_X10_isSlot (p_X10_isSlot_0_2 c0 c1)
def F_X10_isView (l0 : Int32) : Int32 := if l0 < (0 : Int32) then (0 : Int32) else (if (7 : Int32) < l0 then (0 : Int32) else (1 : Int32))
theorem f_X10_isView {L : Nat} {xs : Nat → Int32} {d : Nat} {h : xm_H} {l0 : Int32} : xm_V (xm_X0 L xs) xm_P (d + 1) 75 [.int l0] h (some (.int (F_X10_isView l0))) h := by
  unfold F_X10_isView
  by_cases c0 : l0 < (0 : Int32)
  · rw [if_pos c0]
    exact v_X10_isView (p_X10_isView_0_0 c0)
  · rw [if_neg c0]
    by_cases c1 : (7 : Int32) < l0
    · rw [if_pos c1]
      exact v_X10_isView (p_X10_isView_0_1 c0 c1)
    · rw [if_neg c1]
      exact v_X10_isView (p_X10_isView_0_2 c0 c1)
def F_X10_noStateFor (l0 : Int32) : Int32 := if l0 = (-6 : Int32) then (-600 : Int32) else (-100 : Int32)
theorem f_X10_noStateFor {L : Nat} {xs : Nat → Int32} {d : Nat} {h : xm_H} {l0 : Int32} : xm_V (xm_X0 L xs) xm_P (d + 1) 76 [.int l0] h (some (.int (F_X10_noStateFor l0))) h := by
  unfold F_X10_noStateFor
  by_cases c0 : l0 = (-6 : Int32)
  · rw [if_pos c0]
    exact v_X10_noStateFor (p_X10_noStateFor_0_0 c0)
  · rw [if_neg c0]
    exact v_X10_noStateFor (p_X10_noStateFor_0_1 c0)
def F_X8_isMade (h : xm_H) (t : Nat) : Int32 := if h.1 (t + 1) 0 ≤ (0 : Int32) then (0 : Int32) else (1 : Int32)
theorem f_X8_isMade {L : Nat} {xs : Nat → Int32} {d : Nat} {h : xm_H} {t : Nat} (hR : h.2.2 = xm_R0 t) (ht : t = 5 ∨ t = 13) : xm_V (xm_X0 L xs) xm_P (d + 1) 79 [.ref (t + 1)] h (some (.int (F_X8_isMade h t))) h := by
  unfold F_X8_isMade
  by_cases c0 : h.1 (t + 1) 0 ≤ (0 : Int32)
  · rw [if_pos c0]
    exact v_X8_isMade (p_X8_isMade_0_0 (xt_1 ht) c0)
  · rw [if_neg c0]
    exact v_X8_isMade (p_X8_isMade_0_1 (xt_1 ht) c0)
def F_X3_depthOf (h : xm_H) (t : Nat) (l1 : Int32) : Int32 := if l1 < (0 : Int32) then (-1 : Int32) else (if h.1 61 14 ≤ l1 then (-1 : Int32) else (if (640 : Int32) ≤ l1 then (-1 : Int32) else (h.1 68 l1.toNatClampNeg)))
theorem f_X3_depthOf {L : Nat} {xs : Nat → Int32} {d : Nat} {h : xm_H} {t : Nat} (hR : h.2.2 = xm_R0 t) (ht : t = 5 ∨ t = 13) {l1 : Int32} (g0 : (¬ (l1 < (0 : Int32))) → (¬ (h.1 61 14 ≤ l1)) → (¬ ((640 : Int32) ≤ l1)) → ¬ (l1 < 0 ∨ 640 ≤ l1.toNatClampNeg)) : xm_V (xm_X0 L xs) xm_P (d + 1) 89 [.ref 61, .int l1] h (some (.int (F_X3_depthOf h t l1))) h := by
  unfold F_X3_depthOf
  by_cases c0 : l1 < (0 : Int32)
  · rw [if_pos c0]
    exact v_X3_depthOf (p_X3_depthOf_0_0 c0)
  · rw [if_neg c0]
    by_cases c1 : h.1 61 14 ≤ l1
    · rw [if_pos c1]
      exact v_X3_depthOf (p_X3_depthOf_0_1 c0 xs_61 c1)
    · rw [if_neg c1]
      by_cases c2 : (640 : Int32) ≤ l1
      · rw [if_pos c2]
        exact v_X3_depthOf (p_X3_depthOf_0_2 c0 xs_61 c1 c2)
      · rw [if_neg c2]
        exact v_X3_depthOf (p_X3_depthOf_0_3 c0 xs_61 c1 c2 (rr_l61_6 hR) xs_68 (g0 c0 c1 c2))
def F_X3_nextOf (h : xm_H) (t : Nat) (l1 : Int32) (l2 : Int32) : Int32 := if (l1 * (10 : Int32)) + l2 < (0 : Int32) then (-1 : Int32) else (if Int32.ofNat 6400 ≤ (l1 * (10 : Int32)) + l2 then (-1 : Int32) else (h.1 65 (((l1 * (10 : Int32)) + l2).toNatClampNeg)))
theorem f_X3_nextOf {L : Nat} {xs : Nat → Int32} {d : Nat} {h : xm_H} {t : Nat} (hR : h.2.2 = xm_R0 t) (ht : t = 5 ∨ t = 13) {l1 : Int32} {l2 : Int32} (g0 : (¬ ((l1 * (10 : Int32)) + l2 < (0 : Int32))) → (¬ (Int32.ofNat 6400 ≤ (l1 * (10 : Int32)) + l2)) → ¬ ((l1 * (10 : Int32)) + l2 < 0 ∨ 6400 ≤ ((l1 * (10 : Int32)) + l2).toNatClampNeg)) : xm_V (xm_X0 L xs) xm_P (d + 1) 96 [.ref 61, .int l1, .int l2] h (some (.int (F_X3_nextOf h t l1 l2))) h := by
  unfold F_X3_nextOf
  by_cases c0 : (l1 * (10 : Int32)) + l2 < (0 : Int32)
  · rw [if_pos c0]
    exact v_X3_nextOf (p_X3_nextOf_0_0 c0)
  · rw [if_neg c0]
    by_cases c1 : Int32.ofNat 6400 ≤ (l1 * (10 : Int32)) + l2
    · rw [if_pos c1]
      exact v_X3_nextOf (p_X3_nextOf_0_1 c0 xs_61 (rr_l61_3 hR) xs_65 c1)
    · rw [if_neg c1]
      exact v_X3_nextOf (p_X3_nextOf_0_2 c0 xs_61 (rr_l61_3 hR) xs_65 c1 (g0 c0 c1))
def F_X10_isSize (l0 : Int32) : Int32 := if l0 < (1 : Int32) then (0 : Int32) else (if (48 : Int32) < l0 then (0 : Int32) else (1 : Int32))
theorem f_X10_isSize {L : Nat} {xs : Nat → Int32} {d : Nat} {h : xm_H} {l0 : Int32} : xm_V (xm_X0 L xs) xm_P (d + 1) 108 [.int l0] h (some (.int (F_X10_isSize l0))) h := by
  unfold F_X10_isSize
  by_cases c0 : l0 < (1 : Int32)
  · rw [if_pos c0]
    exact v_X10_isSize (p_X10_isSize_0_0 c0)
  · rw [if_neg c0]
    by_cases c1 : (48 : Int32) < l0
    · rw [if_pos c1]
      exact v_X10_isSize (p_X10_isSize_0_1 c0 c1)
    · rw [if_neg c1]
      exact v_X10_isSize (p_X10_isSize_0_2 c0 c1)
def F_X3_stateAt (h : xm_H) (t : Nat) (l1 : Int32) : Int32 := if l1 < (0 : Int32) then (0 : Int32) else (if h.1 61 14 ≤ l1 then (0 : Int32) else (if (640 : Int32) ≤ l1 then (0 : Int32) else (h.1 64 l1.toNatClampNeg)))
theorem f_X3_stateAt {L : Nat} {xs : Nat → Int32} {d : Nat} {h : xm_H} {t : Nat} (hR : h.2.2 = xm_R0 t) (ht : t = 5 ∨ t = 13) {l1 : Int32} (g0 : (¬ (l1 < (0 : Int32))) → (¬ (h.1 61 14 ≤ l1)) → (¬ ((640 : Int32) ≤ l1)) → ¬ (l1 < 0 ∨ 640 ≤ l1.toNatClampNeg)) : xm_V (xm_X0 L xs) xm_P (d + 1) 114 [.ref 61, .int l1] h (some (.int (F_X3_stateAt h t l1))) h := by
  unfold F_X3_stateAt
  by_cases c0 : l1 < (0 : Int32)
  · rw [if_pos c0]
    exact v_X3_stateAt (p_X3_stateAt_0_0 c0)
  · rw [if_neg c0]
    by_cases c1 : h.1 61 14 ≤ l1
    · rw [if_pos c1]
      exact v_X3_stateAt (p_X3_stateAt_0_1 c0 xs_61 c1)
    · rw [if_neg c1]
      by_cases c2 : (640 : Int32) ≤ l1
      · rw [if_pos c2]
        exact v_X3_stateAt (p_X3_stateAt_0_2 c0 xs_61 c1 c2)
      · rw [if_neg c2]
        exact v_X3_stateAt (p_X3_stateAt_0_3 c0 xs_61 c1 c2 (rr_l61_2 hR) xs_64 (g0 c0 c1 c2))
def F_X10_isWaysLength (l0 : Int32) : Int32 := if l0 < (0 : Int32) then (0 : Int32) else (if (12 : Int32) < l0 then (0 : Int32) else (1 : Int32))
theorem f_X10_isWaysLength {L : Nat} {xs : Nat → Int32} {d : Nat} {h : xm_H} {l0 : Int32} : xm_V (xm_X0 L xs) xm_P (d + 1) 116 [.int l0] h (some (.int (F_X10_isWaysLength l0))) h := by
  unfold F_X10_isWaysLength
  by_cases c0 : l0 < (0 : Int32)
  · rw [if_pos c0]
    exact v_X10_isWaysLength (p_X10_isWaysLength_0_0 c0)
  · rw [if_neg c0]
    by_cases c1 : (12 : Int32) < l0
    · rw [if_pos c1]
      exact v_X10_isWaysLength (p_X10_isWaysLength_0_1 c0 c1)
    · rw [if_neg c1]
      exact v_X10_isWaysLength (p_X10_isWaysLength_0_2 c0 c1)
def F_X10_isPart (l0 : Int32) : Int32 := if l0 = (0 : Int32) then (1 : Int32) else (if l0 = (1 : Int32) then (1 : Int32) else (0 : Int32))
theorem f_X10_isPart {L : Nat} {xs : Nat → Int32} {d : Nat} {h : xm_H} {l0 : Int32} : xm_V (xm_X0 L xs) xm_P (d + 1) 127 [.int l0] h (some (.int (F_X10_isPart l0))) h := by
  unfold F_X10_isPart
  by_cases c0 : l0 = (0 : Int32)
  · rw [if_pos c0]
    exact v_X10_isPart (p_X10_isPart_0_0 c0)
  · rw [if_neg c0]
    by_cases c1 : l0 = (1 : Int32)
    · rw [if_pos c1]
      exact v_X10_isPart (p_X10_isPart_0_1 c0 c1)
    · rw [if_neg c1]
      exact v_X10_isPart (p_X10_isPart_0_2 c0 c1)
def F_J6_bitCount_0f7a4 (l0 : Int32) : Int32 := ((((((((l0 - (((l0.toUInt32 >>> ((1 : Int32).toUInt32 &&& Int32.toUInt32 31)).toInt32) &&& (1431655765 : Int32))) &&& (858993459 : Int32)) + ((((l0 - (((l0.toUInt32 >>> ((1 : Int32).toUInt32 &&& Int32.toUInt32 31)).toInt32) &&& (1431655765 : Int32))).toUInt32 >>> ((2 : Int32).toUInt32 &&& Int32.toUInt32 31)).toInt32) &&& (858993459 : Int32))) + (((((l0 - (((l0.toUInt32 >>> ((1 : Int32).toUInt32 &&& Int32.toUInt32 31)).toInt32) &&& (1431655765 : Int32))) &&& (858993459 : Int32)) + ((((l0 - (((l0.toUInt32 >>> ((1 : Int32).toUInt32 &&& Int32.toUInt32 31)).toInt32) &&& (1431655765 : Int32))).toUInt32 >>> ((2 : Int32).toUInt32 &&& Int32.toUInt32 31)).toInt32) &&& (858993459 : Int32))).toUInt32 >>> ((4 : Int32).toUInt32 &&& Int32.toUInt32 31)).toInt32)) &&& (252645135 : Int32)) + (((((((l0 - (((l0.toUInt32 >>> ((1 : Int32).toUInt32 &&& Int32.toUInt32 31)).toInt32) &&& (1431655765 : Int32))) &&& (858993459 : Int32)) + ((((l0 - (((l0.toUInt32 >>> ((1 : Int32).toUInt32 &&& Int32.toUInt32 31)).toInt32) &&& (1431655765 : Int32))).toUInt32 >>> ((2 : Int32).toUInt32 &&& Int32.toUInt32 31)).toInt32) &&& (858993459 : Int32))) + (((((l0 - (((l0.toUInt32 >>> ((1 : Int32).toUInt32 &&& Int32.toUInt32 31)).toInt32) &&& (1431655765 : Int32))) &&& (858993459 : Int32)) + ((((l0 - (((l0.toUInt32 >>> ((1 : Int32).toUInt32 &&& Int32.toUInt32 31)).toInt32) &&& (1431655765 : Int32))).toUInt32 >>> ((2 : Int32).toUInt32 &&& Int32.toUInt32 31)).toInt32) &&& (858993459 : Int32))).toUInt32 >>> ((4 : Int32).toUInt32 &&& Int32.toUInt32 31)).toInt32)) &&& (252645135 : Int32)).toUInt32 >>> ((8 : Int32).toUInt32 &&& Int32.toUInt32 31)).toInt32)) + ((((((((l0 - (((l0.toUInt32 >>> ((1 : Int32).toUInt32 &&& Int32.toUInt32 31)).toInt32) &&& (1431655765 : Int32))) &&& (858993459 : Int32)) + ((((l0 - (((l0.toUInt32 >>> ((1 : Int32).toUInt32 &&& Int32.toUInt32 31)).toInt32) &&& (1431655765 : Int32))).toUInt32 >>> ((2 : Int32).toUInt32 &&& Int32.toUInt32 31)).toInt32) &&& (858993459 : Int32))) + (((((l0 - (((l0.toUInt32 >>> ((1 : Int32).toUInt32 &&& Int32.toUInt32 31)).toInt32) &&& (1431655765 : Int32))) &&& (858993459 : Int32)) + ((((l0 - (((l0.toUInt32 >>> ((1 : Int32).toUInt32 &&& Int32.toUInt32 31)).toInt32) &&& (1431655765 : Int32))).toUInt32 >>> ((2 : Int32).toUInt32 &&& Int32.toUInt32 31)).toInt32) &&& (858993459 : Int32))).toUInt32 >>> ((4 : Int32).toUInt32 &&& Int32.toUInt32 31)).toInt32)) &&& (252645135 : Int32)) + (((((((l0 - (((l0.toUInt32 >>> ((1 : Int32).toUInt32 &&& Int32.toUInt32 31)).toInt32) &&& (1431655765 : Int32))) &&& (858993459 : Int32)) + ((((l0 - (((l0.toUInt32 >>> ((1 : Int32).toUInt32 &&& Int32.toUInt32 31)).toInt32) &&& (1431655765 : Int32))).toUInt32 >>> ((2 : Int32).toUInt32 &&& Int32.toUInt32 31)).toInt32) &&& (858993459 : Int32))) + (((((l0 - (((l0.toUInt32 >>> ((1 : Int32).toUInt32 &&& Int32.toUInt32 31)).toInt32) &&& (1431655765 : Int32))) &&& (858993459 : Int32)) + ((((l0 - (((l0.toUInt32 >>> ((1 : Int32).toUInt32 &&& Int32.toUInt32 31)).toInt32) &&& (1431655765 : Int32))).toUInt32 >>> ((2 : Int32).toUInt32 &&& Int32.toUInt32 31)).toInt32) &&& (858993459 : Int32))).toUInt32 >>> ((4 : Int32).toUInt32 &&& Int32.toUInt32 31)).toInt32)) &&& (252645135 : Int32)).toUInt32 >>> ((8 : Int32).toUInt32 &&& Int32.toUInt32 31)).toInt32)).toUInt32 >>> ((16 : Int32).toUInt32 &&& Int32.toUInt32 31)).toInt32)) &&& (63 : Int32))
theorem f_J6_bitCount_0f7a4 {L : Nat} {xs : Nat → Int32} {d : Nat} {h : xm_H} {l0 : Int32} : xm_V (xm_X0 L xs) xm_P (d + 1) 129 [.int l0] h (some (.int (F_J6_bitCount_0f7a4 l0))) h := by
  unfold F_J6_bitCount_0f7a4
  exact v_J6_bitCount_0f7a4 (p_J6_bitCount_0f7a4_0_0 )
def F_X0_canSlip (l0 : Int32) : Int32 := if l0 = (0 : Int32) then (1 : Int32) else (if l0 = (1 : Int32) then (1 : Int32) else (0 : Int32))
theorem f_X0_canSlip {L : Nat} {xs : Nat → Int32} {d : Nat} {h : xm_H} {l0 : Int32} : xm_V (xm_X0 L xs) xm_P (d + 1) 135 [.int l0] h (some (.int (F_X0_canSlip l0))) h := by
  unfold F_X0_canSlip
  by_cases c0 : l0 = (0 : Int32)
  · rw [if_pos c0]
    exact v_X0_canSlip (p_X0_canSlip_0_0 c0)
  · rw [if_neg c0]
    by_cases c1 : l0 = (1 : Int32)
    · rw [if_pos c1]
      exact v_X0_canSlip (p_X0_canSlip_0_1 c0 c1)
    · rw [if_neg c1]
      exact v_X0_canSlip (p_X0_canSlip_0_2 c0 c1)
def F_X10_isPair (h : xm_H) (t : Nat) (l1 : Int32) : Int32 := if l1 < (0 : Int32) then (0 : Int32) else (if h.1 t 10 ≤ l1 then (0 : Int32) else (1 : Int32))
theorem f_X10_isPair {L : Nat} {xs : Nat → Int32} {d : Nat} {h : xm_H} {t : Nat} (hR : h.2.2 = xm_R0 t) (ht : t = 5 ∨ t = 13) {l1 : Int32} : xm_V (xm_X0 L xs) xm_P (d + 1) 154 [.ref 0, .int l1] h (some (.int (F_X10_isPair h t l1))) h := by
  unfold F_X10_isPair
  by_cases c0 : l1 < (0 : Int32)
  · rw [if_pos c0]
    exact v_X10_isPair (p_X10_isPair_0_0 c0)
  · rw [if_neg c0]
    by_cases c1 : h.1 t 10 ≤ l1
    · rw [if_pos c1]
      exact v_X10_isPair (p_X10_isPair_0_1 c0 xs_0 (rr_l0_1 hR) xs_3 (rr_l3_0 hR) (xt_0 ht) c1)
    · rw [if_neg c1]
      exact v_X10_isPair (p_X10_isPair_0_2 c0 xs_0 (rr_l0_1 hR) xs_3 (rr_l3_0 hR) (xt_0 ht) c1)
def F_X0_secondsForSheet (h : xm_H) (t : Nat) (l1 : Int32) (l2 : Int32) : Int32 := if l1 < (0 : Int32) then (0 : Int32) else (if Int32.ofNat 4 ≤ l1 then (0 : Int32) else (if l2 < (0 : Int32) then (0 : Int32) else (if l2 ≤ (999 : Int32) then ((h.1 (t + 5) l1.toNatClampNeg) + ((h.1 (t + 6) l1.toNatClampNeg) / (l2 + (1 : Int32)))) else (0 : Int32))))
theorem f_X0_secondsForSheet {L : Nat} {xs : Nat → Int32} {d : Nat} {h : xm_H} {t : Nat} (hR : h.2.2 = xm_R0 t) (ht : t = 5 ∨ t = 13) {l1 : Int32} {l2 : Int32} (g0 : (¬ (l1 < (0 : Int32))) → (¬ (Int32.ofNat 4 ≤ l1)) → (¬ (l2 < (0 : Int32))) → (l2 ≤ (999 : Int32)) → ¬ (l1 < 0 ∨ 4 ≤ l1.toNatClampNeg)) (g1 : (¬ (l1 < (0 : Int32))) → (¬ (Int32.ofNat 4 ≤ l1)) → (¬ (l2 < (0 : Int32))) → (l2 ≤ (999 : Int32)) → ¬ (l2 + (1 : Int32)) = 0) : xm_V (xm_X0 L xs) xm_P (d + 1) 156 [.ref t, .int l1, .int l2] h (some (.int (F_X0_secondsForSheet h t l1 l2))) h := by
  unfold F_X0_secondsForSheet
  by_cases c0 : l1 < (0 : Int32)
  · rw [if_pos c0]
    exact v_X0_secondsForSheet (p_X0_secondsForSheet_0_0 c0)
  · rw [if_neg c0]
    by_cases c1 : Int32.ofNat 4 ≤ l1
    · rw [if_pos c1]
      exact v_X0_secondsForSheet (p_X0_secondsForSheet_0_1 c0 (xt_0 ht) (rr_t0_16 hR ht) (xt_5 ht) c1)
    · rw [if_neg c1]
      by_cases c2 : l2 < (0 : Int32)
      · rw [if_pos c2]
        exact v_X0_secondsForSheet (p_X0_secondsForSheet_0_2 c0 (xt_0 ht) (rr_t0_16 hR ht) (xt_5 ht) c1 c2)
      · rw [if_neg c2]
        by_cases c3 : l2 ≤ (999 : Int32)
        · rw [if_pos c3]
          exact v_X0_secondsForSheet (p_X0_secondsForSheet_0_3 c0 (xt_0 ht) (rr_t0_16 hR ht) (xt_5 ht) c1 c2 c3 (g0 c0 c1 c2 c3) (rr_t0_17 hR ht) (xt_6 ht) (g0 c0 c1 c2 c3) (g1 c0 c1 c2 c3))
        · rw [if_neg c3]
          exact v_X0_secondsForSheet (p_X0_secondsForSheet_0_4 c0 (xt_0 ht) (rr_t0_16 hR ht) (xt_5 ht) c1 c2 c3)
def F_X4_timeOf (h : xm_H) (t : Nat) (l1 : Int32) : Int32 := if h.1 76 l1.toNatClampNeg < (0 : Int32) then (0 : Int32) else (if (361 : Int32) ≤ h.1 76 l1.toNatClampNeg then (0 : Int32) else (h.1 75 (((l1 * (361 : Int32)) + (h.1 76 l1.toNatClampNeg)).toNatClampNeg)))
theorem f_X4_timeOf {L : Nat} {xs : Nat → Int32} {d : Nat} {h : xm_H} {t : Nat} (hR : h.2.2 = xm_R0 t) (ht : t = 5 ∨ t = 13) {l1 : Int32} (g0 : ¬ (l1 < 0 ∨ 5 ≤ l1.toNatClampNeg)) (g1 : (¬ (h.1 76 l1.toNatClampNeg < (0 : Int32))) → (¬ ((361 : Int32) ≤ h.1 76 l1.toNatClampNeg)) → ¬ ((l1 * (361 : Int32)) + (h.1 76 l1.toNatClampNeg) < 0 ∨ 1805 ≤ ((l1 * (361 : Int32)) + (h.1 76 l1.toNatClampNeg)).toNatClampNeg)) : xm_V (xm_X0 L xs) xm_P (d + 1) 163 [.ref 74, .int l1] h (some (.int (F_X4_timeOf h t l1))) h := by
  unfold F_X4_timeOf
  by_cases c0 : h.1 76 l1.toNatClampNeg < (0 : Int32)
  · rw [if_pos c0]
    exact v_X4_timeOf (p_X4_timeOf_0_0 xs_74 (rr_l74_1 hR) xs_76 (g0) c0)
  · rw [if_neg c0]
    by_cases c1 : (361 : Int32) ≤ h.1 76 l1.toNatClampNeg
    · rw [if_pos c1]
      exact v_X4_timeOf (p_X4_timeOf_0_1 xs_74 (rr_l74_1 hR) xs_76 (g0) c0 c1)
    · rw [if_neg c1]
      exact v_X4_timeOf (p_X4_timeOf_0_2 xs_74 (rr_l74_1 hR) xs_76 (g0) c0 c1 (rr_l74_0 hR) xs_75 (g1 c0 c1))
def F_X4_pairOf (h : xm_H) (t : Nat) (l1 : Int32) : Int32 := if l1 < (0 : Int32) then (-1 : Int32) else (if (6 : Int32) ≤ l1 then (-1 : Int32) else (h.1 78 l1.toNatClampNeg))
theorem f_X4_pairOf {L : Nat} {xs : Nat → Int32} {d : Nat} {h : xm_H} {t : Nat} (hR : h.2.2 = xm_R0 t) (ht : t = 5 ∨ t = 13) {l1 : Int32} (g0 : (¬ (l1 < (0 : Int32))) → (¬ ((6 : Int32) ≤ l1)) → ¬ (l1 < 0 ∨ 6 ≤ l1.toNatClampNeg)) : xm_V (xm_X0 L xs) xm_P (d + 1) 165 [.ref 74, .int l1] h (some (.int (F_X4_pairOf h t l1))) h := by
  unfold F_X4_pairOf
  by_cases c0 : l1 < (0 : Int32)
  · rw [if_pos c0]
    exact v_X4_pairOf (p_X4_pairOf_0_0 c0)
  · rw [if_neg c0]
    by_cases c1 : (6 : Int32) ≤ l1
    · rw [if_pos c1]
      exact v_X4_pairOf (p_X4_pairOf_0_1 c0 c1)
    · rw [if_neg c1]
      exact v_X4_pairOf (p_X4_pairOf_0_2 c0 c1 xs_74 (rr_l74_3 hR) xs_78 (g0 c0 c1))
def F_X10_isSeed (l0 : Int32) : Int32 := if l0 < (0 : Int32) then (0 : Int32) else (if (2000000000 : Int32) < l0 then (0 : Int32) else (1 : Int32))
theorem f_X10_isSeed {L : Nat} {xs : Nat → Int32} {d : Nat} {h : xm_H} {l0 : Int32} : xm_V (xm_X0 L xs) xm_P (d + 1) 168 [.int l0] h (some (.int (F_X10_isSeed l0))) h := by
  unfold F_X10_isSeed
  by_cases c0 : l0 < (0 : Int32)
  · rw [if_pos c0]
    exact v_X10_isSeed (p_X10_isSeed_0_0 c0)
  · rw [if_neg c0]
    by_cases c1 : (2000000000 : Int32) < l0
    · rw [if_pos c1]
      exact v_X10_isSeed (p_X10_isSeed_0_1 c0 c1)
    · rw [if_neg c1]
      exact v_X10_isSeed (p_X10_isSeed_0_2 c0 c1)
def F_X10_isImage (l0 : Int32) : Int32 := if l0 < (0 : Int32) then (0 : Int32) else (if (3 : Int32) ≤ l0 then (0 : Int32) else (1 : Int32))
theorem f_X10_isImage {L : Nat} {xs : Nat → Int32} {d : Nat} {h : xm_H} {l0 : Int32} : xm_V (xm_X0 L xs) xm_P (d + 1) 176 [.int l0] h (some (.int (F_X10_isImage l0))) h := by
  unfold F_X10_isImage
  by_cases c0 : l0 < (0 : Int32)
  · rw [if_pos c0]
    exact v_X10_isImage (p_X10_isImage_0_0 c0)
  · rw [if_neg c0]
    by_cases c1 : (3 : Int32) ≤ l0
    · rw [if_pos c1]
      exact v_X10_isImage (p_X10_isImage_0_1 c0 c1)
    · rw [if_neg c1]
      exact v_X10_isImage (p_X10_isImage_0_2 c0 c1)
def F_X11_in (l0 : Int64) (l2 : Int64) (l4 : Int64) : Int32 := if lg_cmp l0 l2 < (0 : Int32) then (0 : Int32) else (if (0 : Int32) < lg_cmp l0 l4 then (0 : Int32) else (1 : Int32))
theorem f_X11_in {L : Nat} {xs : Nat → Int32} {d : Nat} {h : xm_H} {l0 : Int64} {l2 : Int64} {l4 : Int64} : xm_V (xm_X0 L xs) xm_P (d + 1) 191 [.long l0, .long l2, .long l4] h (some (.int (F_X11_in l0 l2 l4))) h := by
  unfold F_X11_in
  by_cases c0 : lg_cmp l0 l2 < (0 : Int32)
  · rw [if_pos c0]
    exact v_X11_in (p_X11_in_0_0 c0)
  · rw [if_neg c0]
    by_cases c1 : (0 : Int32) < lg_cmp l0 l4
    · rw [if_pos c1]
      exact v_X11_in (p_X11_in_0_1 c0 c1)
    · rw [if_neg c1]
      exact v_X11_in (p_X11_in_0_2 c0 c1)
def F_X11_fault (h : xm_H) (t : Nat) (l1 : Int32) : Int32 := if l1 = (0 : Int32) then (h.1 82 12) else (if l1 = (1 : Int32) then (h.1 82 13) else (-1 : Int32))
theorem f_X11_fault {L : Nat} {xs : Nat → Int32} {d : Nat} {h : xm_H} {t : Nat} (hR : h.2.2 = xm_R0 t) (ht : t = 5 ∨ t = 13) {l1 : Int32} : xm_V (xm_X0 L xs) xm_P (d + 1) 195 [.ref 82, .int l1] h (some (.int (F_X11_fault h t l1))) h := by
  unfold F_X11_fault
  by_cases c0 : l1 = (0 : Int32)
  · rw [if_pos c0]
    exact v_X11_fault (p_X11_fault_0_0 c0 xs_82)
  · rw [if_neg c0]
    by_cases c1 : l1 = (1 : Int32)
    · rw [if_pos c1]
      exact v_X11_fault (p_X11_fault_0_1 c0 c1 xs_82)
    · rw [if_neg c1]
      exact v_X11_fault (p_X11_fault_0_2 c0 c1)
def F_X11_see (h : xm_H) (t : Nat) (l1 : Int32) : Int32 := if h.1 82 7 ≤ l1 then (-1 : Int32) else ((h.1 86 l1.toNatClampNeg) &&& (255 : Int32))
theorem f_X11_see {L : Nat} {xs : Nat → Int32} {d : Nat} {h : xm_H} {t : Nat} (hR : h.2.2 = xm_R0 t) (ht : t = 5 ∨ t = 13) {l1 : Int32} (g0 : (¬ (h.1 82 7 ≤ l1)) → ¬ (l1 < 0 ∨ 1000 ≤ l1.toNatClampNeg)) : xm_V (xm_X0 L xs) xm_P (d + 1) 198 [.ref 82, .int l1] h (some (.int (F_X11_see h t l1))) h := by
  unfold F_X11_see
  by_cases c0 : h.1 82 7 ≤ l1
  · rw [if_pos c0]
    exact v_X11_see (p_X11_see_0_0 xs_82 c0)
  · rw [if_neg c0]
    exact v_X11_see (p_X11_see_0_1 xs_82 c0 (rr_l82_4 hR) xs_86 (g0 c0) (by decide))
def F_X11_good (h : xm_H) (t : Nat) : Int32 := if h.1 82 12 = (0 : Int32) then (1 : Int32) else (0 : Int32)
theorem f_X11_good {L : Nat} {xs : Nat → Int32} {d : Nat} {h : xm_H} {t : Nat} (hR : h.2.2 = xm_R0 t) (ht : t = 5 ∨ t = 13) : xm_V (xm_X0 L xs) xm_P (d + 1) 199 [.ref 82] h (some (.int (F_X11_good h t))) h := by
  unfold F_X11_good
  by_cases c0 : h.1 82 12 = (0 : Int32)
  · rw [if_pos c0]
    exact v_X11_good (p_X11_good_0_0 xs_82 c0)
  · rw [if_neg c0]
    exact v_X11_good (p_X11_good_0_1 xs_82 c0)
def F_X11_isLinen (h : xm_H) (t : Nat) : Int32 := if h.1 83 22 ≤ (0 : Int32) then (0 : Int32) else (1 : Int32)
theorem f_X11_isLinen {L : Nat} {xs : Nat → Int32} {d : Nat} {h : xm_H} {t : Nat} (hR : h.2.2 = xm_R0 t) (ht : t = 5 ∨ t = 13) : xm_V (xm_X0 L xs) xm_P (d + 1) 216 [.ref 82] h (some (.int (F_X11_isLinen h t))) h := by
  unfold F_X11_isLinen
  by_cases c0 : h.1 83 22 ≤ (0 : Int32)
  · rw [if_pos c0]
    exact v_X11_isLinen (p_X11_isLinen_0_0 xs_82 (rr_l82_1 hR) xs_83 (by decide) c0)
  · rw [if_neg c0]
    exact v_X11_isLinen (p_X11_isLinen_0_1 xs_82 (rr_l82_1 hR) xs_83 (by decide) c0)
def F_X11_state (l0 : Int32) (l1 : Int32) (l2 : Int32) (l3 : Int32) (l4 : Int32) : Int32 := (((((((((l0 * (49 : Int32)) + l1) * (5 : Int32)) + l2) * (2 : Int32)) + l3) * (5 : Int32)) + l4) + (2 : Int32))
theorem f_X11_state {L : Nat} {xs : Nat → Int32} {d : Nat} {h : xm_H} {l0 : Int32} {l1 : Int32} {l2 : Int32} {l3 : Int32} {l4 : Int32} : xm_V (xm_X0 L xs) xm_P (d + 1) 221 [.int l0, .int l1, .int l2, .int l3, .int l4] h (some (.int (F_X11_state l0 l1 l2 l3 l4))) h := by
  unfold F_X11_state
  exact v_X11_state (p_X11_state_0_0 )
def F_X11_longOf (l0 : Int32) : Int32 := ((((l0 / (5 : Int32)) / (2 : Int32)) / (5 : Int32)) / (49 : Int32))
theorem f_X11_longOf {L : Nat} {xs : Nat → Int32} {d : Nat} {h : xm_H} {l0 : Int32} : xm_V (xm_X0 L xs) xm_P (d + 1) 224 [.int l0] h (some (.int (F_X11_longOf l0))) h := by
  unfold F_X11_longOf
  exact v_X11_longOf (p_X11_longOf_0_0 )
def F_X11_wideOf (l0 : Int32) : Int32 := ((((l0 / (5 : Int32)) / (2 : Int32)) / (5 : Int32)) - (((l0 / (5 : Int32)) / (2 : Int32)) / (5 : Int32)) / (49 : Int32) * (49 : Int32))
theorem f_X11_wideOf {L : Nat} {xs : Nat → Int32} {d : Nat} {h : xm_H} {l0 : Int32} : xm_V (xm_X0 L xs) xm_P (d + 1) 225 [.int l0] h (some (.int (F_X11_wideOf l0))) h := by
  unfold F_X11_wideOf
  exact v_X11_wideOf (p_X11_wideOf_0_0 )
def F_X11_hemOf (l0 : Int32) : Int32 := (((l0 / (5 : Int32)) / (2 : Int32)) - ((l0 / (5 : Int32)) / (2 : Int32)) / (5 : Int32) * (5 : Int32))
theorem f_X11_hemOf {L : Nat} {xs : Nat → Int32} {d : Nat} {h : xm_H} {l0 : Int32} : xm_V (xm_X0 L xs) xm_P (d + 1) 226 [.int l0] h (some (.int (F_X11_hemOf l0))) h := by
  unfold F_X11_hemOf
  exact v_X11_hemOf (p_X11_hemOf_0_0 )
def F_X11_faceOf (l0 : Int32) : Int32 := ((l0 / (5 : Int32)) - (l0 / (5 : Int32)) / (2 : Int32) * (2 : Int32))
theorem f_X11_faceOf {L : Nat} {xs : Nat → Int32} {d : Nat} {h : xm_H} {l0 : Int32} : xm_V (xm_X0 L xs) xm_P (d + 1) 227 [.int l0] h (some (.int (F_X11_faceOf l0))) h := by
  unfold F_X11_faceOf
  exact v_X11_faceOf (p_X11_faceOf_0_0 )
def F_X11_twistOf (l0 : Int32) : Int32 := ((l0 - l0 / (5 : Int32) * (5 : Int32)) - (2 : Int32))
theorem f_X11_twistOf {L : Nat} {xs : Nat → Int32} {d : Nat} {h : xm_H} {l0 : Int32} : xm_V (xm_X0 L xs) xm_P (d + 1) 228 [.int l0] h (some (.int (F_X11_twistOf l0))) h := by
  unfold F_X11_twistOf
  exact v_X11_twistOf (p_X11_twistOf_0_0 )
def F_X11_trade (l0 : Int32) (l1 : Int32) (l2 : Int32) : Int32 := if l0 = l1 then l2 else (if l0 = l2 then l1 else l0)
theorem f_X11_trade {L : Nat} {xs : Nat → Int32} {d : Nat} {h : xm_H} {l0 : Int32} {l1 : Int32} {l2 : Int32} : xm_V (xm_X0 L xs) xm_P (d + 1) 230 [.int l0, .int l1, .int l2] h (some (.int (F_X11_trade l0 l1 l2))) h := by
  unfold F_X11_trade
  by_cases c0 : l0 = l1
  · rw [if_pos c0]
    exact v_X11_trade (p_X11_trade_0_0 c0)
  · rw [if_neg c0]
    by_cases c1 : l0 = l2
    · rw [if_pos c1]
      exact v_X11_trade (p_X11_trade_0_1 c0 c1)
    · rw [if_neg c1]
      exact v_X11_trade (p_X11_trade_0_2 c0 c1)
def F_X11_round (l0 : Int32) : Int32 := if l0 = (0 : Int32) then (3 : Int32) else (if l0 = (3 : Int32) then (1 : Int32) else (if l0 = (1 : Int32) then (2 : Int32) else (if l0 = (2 : Int32) then (0 : Int32) else l0)))
theorem f_X11_round {L : Nat} {xs : Nat → Int32} {d : Nat} {h : xm_H} {l0 : Int32} : xm_V (xm_X0 L xs) xm_P (d + 1) 231 [.int l0] h (some (.int (F_X11_round l0))) h := by
  unfold F_X11_round
  by_cases c0 : l0 = (0 : Int32)
  · rw [if_pos c0]
    exact v_X11_round (p_X11_round_0_0 c0)
  · rw [if_neg c0]
    by_cases c1 : l0 = (3 : Int32)
    · rw [if_pos c1]
      exact v_X11_round (p_X11_round_0_1 c0 c1)
    · rw [if_neg c1]
      by_cases c2 : l0 = (1 : Int32)
      · rw [if_pos c2]
        exact v_X11_round (p_X11_round_0_2 c0 c1 c2)
      · rw [if_neg c2]
        by_cases c3 : l0 = (2 : Int32)
        · rw [if_pos c3]
          exact v_X11_round (p_X11_round_0_3 c0 c1 c2 c3)
        · rw [if_neg c3]
          exact v_X11_round (p_X11_round_0_4 c0 c1 c2 c3)
def F_X11_movingOf (l0 : Int32) : Int32 := if (2 : Int32) ≤ l0 then (if l0 = (2 : Int32) then (1 : Int32) else (if (6 : Int32) ≤ l0 then (if (8 : Int32) ≤ l0 then (if l0 = (8 : Int32) then (4 : Int32) else (5 : Int32)) else (3 : Int32)) else (2 : Int32))) else (0 : Int32)
theorem f_X11_movingOf {L : Nat} {xs : Nat → Int32} {d : Nat} {h : xm_H} {l0 : Int32} : xm_V (xm_X0 L xs) xm_P (d + 1) 235 [.int l0] h (some (.int (F_X11_movingOf l0))) h := by
  unfold F_X11_movingOf
  by_cases c0 : (2 : Int32) ≤ l0
  · rw [if_pos c0]
    by_cases c1 : l0 = (2 : Int32)
    · rw [if_pos c1]
      exact v_X11_movingOf (p_X11_movingOf_0_0 c0 c1)
    · rw [if_neg c1]
      by_cases c2 : (6 : Int32) ≤ l0
      · rw [if_pos c2]
        by_cases c3 : (8 : Int32) ≤ l0
        · rw [if_pos c3]
          by_cases c4 : l0 = (8 : Int32)
          · rw [if_pos c4]
            exact v_X11_movingOf (p_X11_movingOf_0_1 c0 c1 c2 c3 c4)
          · rw [if_neg c4]
            exact v_X11_movingOf (p_X11_movingOf_0_2 c0 c1 c2 c3 c4)
        · rw [if_neg c3]
          exact v_X11_movingOf (p_X11_movingOf_0_3 c0 c1 c2 c3)
      · rw [if_neg c2]
        exact v_X11_movingOf (p_X11_movingOf_0_4 c0 c1 c2)
  · rw [if_neg c0]
    exact v_X11_movingOf (p_X11_movingOf_0_5 c0)
def F_X11_her (h : xm_H) (t : Nat) (l1 : Int32) : Int32 := (h.1 83 (((24 : Int32) + ((2 : Int32) * l1)).toNatClampNeg))
theorem f_X11_her {L : Nat} {xs : Nat → Int32} {d : Nat} {h : xm_H} {t : Nat} (hR : h.2.2 = xm_R0 t) (ht : t = 5 ∨ t = 13) {l1 : Int32} (g0 : ¬ ((24 : Int32) + ((2 : Int32) * l1) < 0 ∨ 110 ≤ ((24 : Int32) + ((2 : Int32) * l1)).toNatClampNeg)) : xm_V (xm_X0 L xs) xm_P (d + 1) 245 [.ref 82, .int l1] h (some (.int (F_X11_her h t l1))) h := by
  unfold F_X11_her
  exact v_X11_her (p_X11_her_0_0 xs_82 (rr_l82_1 hR) xs_83 (g0))
def F_X11_his (h : xm_H) (t : Nat) (l1 : Int32) : Int32 := (h.1 83 ((((24 : Int32) + ((2 : Int32) * l1)) + (1 : Int32)).toNatClampNeg))
theorem f_X11_his {L : Nat} {xs : Nat → Int32} {d : Nat} {h : xm_H} {t : Nat} (hR : h.2.2 = xm_R0 t) (ht : t = 5 ∨ t = 13) {l1 : Int32} (g0 : ¬ (((24 : Int32) + ((2 : Int32) * l1)) + (1 : Int32) < 0 ∨ 110 ≤ (((24 : Int32) + ((2 : Int32) * l1)) + (1 : Int32)).toNatClampNeg)) : xm_V (xm_X0 L xs) xm_P (d + 1) 246 [.ref 82, .int l1] h (some (.int (F_X11_his h t l1))) h := by
  unfold F_X11_his
  exact v_X11_his (p_X11_his_0_0 xs_82 (rr_l82_1 hR) xs_83 (g0))
theorem w_X11_meaning_0_0 {X : xm_X} {P : List xm_M} {d : Nat} {h : xm_H} {l0 : Int32} {l1 : Int32} (q0 : l0 = (0 : Int32)) (q1 : l1 = (0 : Int32)) : xm_E X P d co_X11_meaning 0 [some (.int l0), some (.int l1)] [] h (some (.int (0 : Int32))) h := by
  refine xm_E_s r_X11_meaning_0 rfl rfl ?_
  refine xm_E_s r_X11_meaning_1 rfl rfl ?_
  refine xm_E_t q0 ?_
  refine xm_E_s r_X11_meaning_2 rfl rfl ?_
  refine xm_E_s r_X11_meaning_3 rfl rfl ?_
  refine xm_E_t q1 ?_
  refine xm_E_s r_X11_meaning_4 rfl rfl ?_
  exact xm_E_iret r_X11_meaning_5 rfl rfl
theorem w_X11_meaning_0_1 {X : xm_X} {P : List xm_M} {d : Nat} {h : xm_H} {l0 : Int32} {l1 : Int32} (q0 : l0 = (0 : Int32)) (q1 : ¬ (l1 = (0 : Int32))) (q2 : l0 = (1 : Int32)) (q3 : l1 = (1 : Int32)) : xm_E X P d co_X11_meaning 0 [some (.int l0), some (.int l1)] [] h (some (.int (1 : Int32))) h := by
  refine xm_E_s r_X11_meaning_0 rfl rfl ?_
  refine xm_E_s r_X11_meaning_1 rfl rfl ?_
  refine xm_E_t q0 ?_
  refine xm_E_s r_X11_meaning_2 rfl rfl ?_
  refine xm_E_s r_X11_meaning_3 rfl rfl ?_
  refine xm_E_f q1 ?_
  refine xm_E_s r_X11_meaning_6 rfl rfl ?_
  refine xm_E_s r_X11_meaning_7 rfl rfl ?_
  refine xm_E_s r_X11_meaning_8 rfl rfl ?_
  refine xm_E_t q2 ?_
  refine xm_E_s r_X11_meaning_9 rfl rfl ?_
  refine xm_E_s r_X11_meaning_10 rfl rfl ?_
  refine xm_E_s r_X11_meaning_11 rfl rfl ?_
  refine xm_E_t q3 ?_
  refine xm_E_s r_X11_meaning_12 rfl rfl ?_
  exact xm_E_iret r_X11_meaning_13 rfl rfl
theorem w_X11_meaning_0_2 {X : xm_X} {P : List xm_M} {d : Nat} {h : xm_H} {l0 : Int32} {l1 : Int32} (q0 : l0 = (0 : Int32)) (q1 : ¬ (l1 = (0 : Int32))) (q2 : l0 = (1 : Int32)) (q3 : ¬ (l1 = (1 : Int32))) (q4 : l0 = (2 : Int32)) (q5 : l1 = (3 : Int32)) : xm_E X P d co_X11_meaning 0 [some (.int l0), some (.int l1)] [] h (some (.int (3 : Int32))) h := by
  refine xm_E_s r_X11_meaning_0 rfl rfl ?_
  refine xm_E_s r_X11_meaning_1 rfl rfl ?_
  refine xm_E_t q0 ?_
  refine xm_E_s r_X11_meaning_2 rfl rfl ?_
  refine xm_E_s r_X11_meaning_3 rfl rfl ?_
  refine xm_E_f q1 ?_
  refine xm_E_s r_X11_meaning_6 rfl rfl ?_
  refine xm_E_s r_X11_meaning_7 rfl rfl ?_
  refine xm_E_s r_X11_meaning_8 rfl rfl ?_
  refine xm_E_t q2 ?_
  refine xm_E_s r_X11_meaning_9 rfl rfl ?_
  refine xm_E_s r_X11_meaning_10 rfl rfl ?_
  refine xm_E_s r_X11_meaning_11 rfl rfl ?_
  refine xm_E_f q3 ?_
  refine xm_E_s r_X11_meaning_14 rfl rfl ?_
  refine xm_E_s r_X11_meaning_15 rfl rfl ?_
  refine xm_E_t q0 ?_
  refine xm_E_s r_X11_meaning_16 rfl rfl ?_
  refine xm_E_s r_X11_meaning_17 rfl rfl ?_
  refine xm_E_s r_X11_meaning_18 rfl rfl ?_
  refine xm_E_f q3 ?_
  refine xm_E_s r_X11_meaning_21 rfl rfl ?_
  refine xm_E_s r_X11_meaning_22 rfl rfl ?_
  refine xm_E_s r_X11_meaning_23 rfl rfl ?_
  refine xm_E_t q2 ?_
  refine xm_E_s r_X11_meaning_24 rfl rfl ?_
  refine xm_E_s r_X11_meaning_25 rfl rfl ?_
  refine xm_E_f q1 ?_
  refine xm_E_s r_X11_meaning_28 rfl rfl ?_
  refine xm_E_s r_X11_meaning_29 rfl rfl ?_
  refine xm_E_s r_X11_meaning_30 rfl rfl ?_
  refine xm_E_t q4 ?_
  refine xm_E_s r_X11_meaning_31 rfl rfl ?_
  refine xm_E_s r_X11_meaning_32 rfl rfl ?_
  refine xm_E_s r_X11_meaning_33 rfl rfl ?_
  refine xm_E_t q5 ?_
  refine xm_E_s r_X11_meaning_34 rfl rfl ?_
  exact xm_E_iret r_X11_meaning_35 rfl rfl
theorem w_X11_meaning_0_3 {X : xm_X} {P : List xm_M} {d : Nat} {h : xm_H} {l0 : Int32} {l1 : Int32} (q0 : l0 = (0 : Int32)) (q1 : ¬ (l1 = (0 : Int32))) (q2 : l0 = (1 : Int32)) (q3 : ¬ (l1 = (1 : Int32))) (q4 : l0 = (2 : Int32)) (q5 : ¬ (l1 = (3 : Int32))) (q6 : l0 = (3 : Int32)) (q7 : l1 = (2 : Int32)) : xm_E X P d co_X11_meaning 0 [some (.int l0), some (.int l1)] [] h (some (.int (4 : Int32))) h := by
  refine xm_E_s r_X11_meaning_0 rfl rfl ?_
  refine xm_E_s r_X11_meaning_1 rfl rfl ?_
  refine xm_E_t q0 ?_
  refine xm_E_s r_X11_meaning_2 rfl rfl ?_
  refine xm_E_s r_X11_meaning_3 rfl rfl ?_
  refine xm_E_f q1 ?_
  refine xm_E_s r_X11_meaning_6 rfl rfl ?_
  refine xm_E_s r_X11_meaning_7 rfl rfl ?_
  refine xm_E_s r_X11_meaning_8 rfl rfl ?_
  refine xm_E_t q2 ?_
  refine xm_E_s r_X11_meaning_9 rfl rfl ?_
  refine xm_E_s r_X11_meaning_10 rfl rfl ?_
  refine xm_E_s r_X11_meaning_11 rfl rfl ?_
  refine xm_E_f q3 ?_
  refine xm_E_s r_X11_meaning_14 rfl rfl ?_
  refine xm_E_s r_X11_meaning_15 rfl rfl ?_
  refine xm_E_t q0 ?_
  refine xm_E_s r_X11_meaning_16 rfl rfl ?_
  refine xm_E_s r_X11_meaning_17 rfl rfl ?_
  refine xm_E_s r_X11_meaning_18 rfl rfl ?_
  refine xm_E_f q3 ?_
  refine xm_E_s r_X11_meaning_21 rfl rfl ?_
  refine xm_E_s r_X11_meaning_22 rfl rfl ?_
  refine xm_E_s r_X11_meaning_23 rfl rfl ?_
  refine xm_E_t q2 ?_
  refine xm_E_s r_X11_meaning_24 rfl rfl ?_
  refine xm_E_s r_X11_meaning_25 rfl rfl ?_
  refine xm_E_f q1 ?_
  refine xm_E_s r_X11_meaning_28 rfl rfl ?_
  refine xm_E_s r_X11_meaning_29 rfl rfl ?_
  refine xm_E_s r_X11_meaning_30 rfl rfl ?_
  refine xm_E_t q4 ?_
  refine xm_E_s r_X11_meaning_31 rfl rfl ?_
  refine xm_E_s r_X11_meaning_32 rfl rfl ?_
  refine xm_E_s r_X11_meaning_33 rfl rfl ?_
  refine xm_E_f q5 ?_
  refine xm_E_s r_X11_meaning_36 rfl rfl ?_
  refine xm_E_s r_X11_meaning_37 rfl rfl ?_
  refine xm_E_s r_X11_meaning_38 rfl rfl ?_
  refine xm_E_t q6 ?_
  refine xm_E_s r_X11_meaning_39 rfl rfl ?_
  refine xm_E_s r_X11_meaning_40 rfl rfl ?_
  refine xm_E_s r_X11_meaning_41 rfl rfl ?_
  refine xm_E_t q7 ?_
  refine xm_E_s r_X11_meaning_42 rfl rfl ?_
  exact xm_E_iret r_X11_meaning_43 rfl rfl
theorem w_X11_meaning_0_4 {X : xm_X} {P : List xm_M} {d : Nat} {h : xm_H} {l0 : Int32} {l1 : Int32} (q0 : l0 = (0 : Int32)) (q1 : ¬ (l1 = (0 : Int32))) (q2 : l0 = (1 : Int32)) (q3 : ¬ (l1 = (1 : Int32))) (q4 : l0 = (2 : Int32)) (q5 : ¬ (l1 = (3 : Int32))) (q6 : l0 = (3 : Int32)) (q7 : ¬ (l1 = (2 : Int32))) : xm_E X P d co_X11_meaning 0 [some (.int l0), some (.int l1)] [] h (some (.int (12 : Int32))) h := by
  refine xm_E_s r_X11_meaning_0 rfl rfl ?_
  refine xm_E_s r_X11_meaning_1 rfl rfl ?_
  refine xm_E_t q0 ?_
  refine xm_E_s r_X11_meaning_2 rfl rfl ?_
  refine xm_E_s r_X11_meaning_3 rfl rfl ?_
  refine xm_E_f q1 ?_
  refine xm_E_s r_X11_meaning_6 rfl rfl ?_
  refine xm_E_s r_X11_meaning_7 rfl rfl ?_
  refine xm_E_s r_X11_meaning_8 rfl rfl ?_
  refine xm_E_t q2 ?_
  refine xm_E_s r_X11_meaning_9 rfl rfl ?_
  refine xm_E_s r_X11_meaning_10 rfl rfl ?_
  refine xm_E_s r_X11_meaning_11 rfl rfl ?_
  refine xm_E_f q3 ?_
  refine xm_E_s r_X11_meaning_14 rfl rfl ?_
  refine xm_E_s r_X11_meaning_15 rfl rfl ?_
  refine xm_E_t q0 ?_
  refine xm_E_s r_X11_meaning_16 rfl rfl ?_
  refine xm_E_s r_X11_meaning_17 rfl rfl ?_
  refine xm_E_s r_X11_meaning_18 rfl rfl ?_
  refine xm_E_f q3 ?_
  refine xm_E_s r_X11_meaning_21 rfl rfl ?_
  refine xm_E_s r_X11_meaning_22 rfl rfl ?_
  refine xm_E_s r_X11_meaning_23 rfl rfl ?_
  refine xm_E_t q2 ?_
  refine xm_E_s r_X11_meaning_24 rfl rfl ?_
  refine xm_E_s r_X11_meaning_25 rfl rfl ?_
  refine xm_E_f q1 ?_
  refine xm_E_s r_X11_meaning_28 rfl rfl ?_
  refine xm_E_s r_X11_meaning_29 rfl rfl ?_
  refine xm_E_s r_X11_meaning_30 rfl rfl ?_
  refine xm_E_t q4 ?_
  refine xm_E_s r_X11_meaning_31 rfl rfl ?_
  refine xm_E_s r_X11_meaning_32 rfl rfl ?_
  refine xm_E_s r_X11_meaning_33 rfl rfl ?_
  refine xm_E_f q5 ?_
  refine xm_E_s r_X11_meaning_36 rfl rfl ?_
  refine xm_E_s r_X11_meaning_37 rfl rfl ?_
  refine xm_E_s r_X11_meaning_38 rfl rfl ?_
  refine xm_E_t q6 ?_
  refine xm_E_s r_X11_meaning_39 rfl rfl ?_
  refine xm_E_s r_X11_meaning_40 rfl rfl ?_
  refine xm_E_s r_X11_meaning_41 rfl rfl ?_
  refine xm_E_f q7 ?_
  refine xm_E_s r_X11_meaning_44 rfl rfl ?_
  refine xm_E_s r_X11_meaning_45 rfl rfl ?_
  refine xm_E_s r_X11_meaning_46 rfl rfl ?_
  refine xm_E_t q4 ?_
  refine xm_E_s r_X11_meaning_47 rfl rfl ?_
  refine xm_E_s r_X11_meaning_48 rfl rfl ?_
  refine xm_E_s r_X11_meaning_49 rfl rfl ?_
  refine xm_E_f q7 ?_
  refine xm_E_s r_X11_meaning_52 rfl rfl ?_
  exact xm_E_iret r_X11_meaning_53 rfl rfl
theorem w_X11_meaning_0_5 {X : xm_X} {P : List xm_M} {d : Nat} {h : xm_H} {l0 : Int32} {l1 : Int32} (q0 : l0 = (0 : Int32)) (q1 : ¬ (l1 = (0 : Int32))) (q2 : l0 = (1 : Int32)) (q3 : ¬ (l1 = (1 : Int32))) (q4 : l0 = (2 : Int32)) (q5 : ¬ (l1 = (3 : Int32))) (q6 : ¬ (l0 = (3 : Int32))) (q7 : l1 = (2 : Int32)) : xm_E X P d co_X11_meaning 0 [some (.int l0), some (.int l1)] [] h (some (.int (5 : Int32))) h := by
  refine xm_E_s r_X11_meaning_0 rfl rfl ?_
  refine xm_E_s r_X11_meaning_1 rfl rfl ?_
  refine xm_E_t q0 ?_
  refine xm_E_s r_X11_meaning_2 rfl rfl ?_
  refine xm_E_s r_X11_meaning_3 rfl rfl ?_
  refine xm_E_f q1 ?_
  refine xm_E_s r_X11_meaning_6 rfl rfl ?_
  refine xm_E_s r_X11_meaning_7 rfl rfl ?_
  refine xm_E_s r_X11_meaning_8 rfl rfl ?_
  refine xm_E_t q2 ?_
  refine xm_E_s r_X11_meaning_9 rfl rfl ?_
  refine xm_E_s r_X11_meaning_10 rfl rfl ?_
  refine xm_E_s r_X11_meaning_11 rfl rfl ?_
  refine xm_E_f q3 ?_
  refine xm_E_s r_X11_meaning_14 rfl rfl ?_
  refine xm_E_s r_X11_meaning_15 rfl rfl ?_
  refine xm_E_t q0 ?_
  refine xm_E_s r_X11_meaning_16 rfl rfl ?_
  refine xm_E_s r_X11_meaning_17 rfl rfl ?_
  refine xm_E_s r_X11_meaning_18 rfl rfl ?_
  refine xm_E_f q3 ?_
  refine xm_E_s r_X11_meaning_21 rfl rfl ?_
  refine xm_E_s r_X11_meaning_22 rfl rfl ?_
  refine xm_E_s r_X11_meaning_23 rfl rfl ?_
  refine xm_E_t q2 ?_
  refine xm_E_s r_X11_meaning_24 rfl rfl ?_
  refine xm_E_s r_X11_meaning_25 rfl rfl ?_
  refine xm_E_f q1 ?_
  refine xm_E_s r_X11_meaning_28 rfl rfl ?_
  refine xm_E_s r_X11_meaning_29 rfl rfl ?_
  refine xm_E_s r_X11_meaning_30 rfl rfl ?_
  refine xm_E_t q4 ?_
  refine xm_E_s r_X11_meaning_31 rfl rfl ?_
  refine xm_E_s r_X11_meaning_32 rfl rfl ?_
  refine xm_E_s r_X11_meaning_33 rfl rfl ?_
  refine xm_E_f q5 ?_
  refine xm_E_s r_X11_meaning_36 rfl rfl ?_
  refine xm_E_s r_X11_meaning_37 rfl rfl ?_
  refine xm_E_s r_X11_meaning_38 rfl rfl ?_
  refine xm_E_f q6 ?_
  refine xm_E_s r_X11_meaning_44 rfl rfl ?_
  refine xm_E_s r_X11_meaning_45 rfl rfl ?_
  refine xm_E_s r_X11_meaning_46 rfl rfl ?_
  refine xm_E_t q4 ?_
  refine xm_E_s r_X11_meaning_47 rfl rfl ?_
  refine xm_E_s r_X11_meaning_48 rfl rfl ?_
  refine xm_E_s r_X11_meaning_49 rfl rfl ?_
  refine xm_E_t q7 ?_
  refine xm_E_s r_X11_meaning_50 rfl rfl ?_
  refine xm_E_s r_X11_meaning_51 rfl rfl ?_
  exact xm_E_iret r_X11_meaning_53 rfl rfl
theorem w_X11_meaning_0_6 {X : xm_X} {P : List xm_M} {d : Nat} {h : xm_H} {l0 : Int32} {l1 : Int32} (q0 : l0 = (0 : Int32)) (q1 : ¬ (l1 = (0 : Int32))) (q2 : l0 = (1 : Int32)) (q3 : ¬ (l1 = (1 : Int32))) (q4 : l0 = (2 : Int32)) (q5 : ¬ (l1 = (3 : Int32))) (q6 : ¬ (l0 = (3 : Int32))) (q7 : ¬ (l1 = (2 : Int32))) : xm_E X P d co_X11_meaning 0 [some (.int l0), some (.int l1)] [] h (some (.int (12 : Int32))) h := by
  refine xm_E_s r_X11_meaning_0 rfl rfl ?_
  refine xm_E_s r_X11_meaning_1 rfl rfl ?_
  refine xm_E_t q0 ?_
  refine xm_E_s r_X11_meaning_2 rfl rfl ?_
  refine xm_E_s r_X11_meaning_3 rfl rfl ?_
  refine xm_E_f q1 ?_
  refine xm_E_s r_X11_meaning_6 rfl rfl ?_
  refine xm_E_s r_X11_meaning_7 rfl rfl ?_
  refine xm_E_s r_X11_meaning_8 rfl rfl ?_
  refine xm_E_t q2 ?_
  refine xm_E_s r_X11_meaning_9 rfl rfl ?_
  refine xm_E_s r_X11_meaning_10 rfl rfl ?_
  refine xm_E_s r_X11_meaning_11 rfl rfl ?_
  refine xm_E_f q3 ?_
  refine xm_E_s r_X11_meaning_14 rfl rfl ?_
  refine xm_E_s r_X11_meaning_15 rfl rfl ?_
  refine xm_E_t q0 ?_
  refine xm_E_s r_X11_meaning_16 rfl rfl ?_
  refine xm_E_s r_X11_meaning_17 rfl rfl ?_
  refine xm_E_s r_X11_meaning_18 rfl rfl ?_
  refine xm_E_f q3 ?_
  refine xm_E_s r_X11_meaning_21 rfl rfl ?_
  refine xm_E_s r_X11_meaning_22 rfl rfl ?_
  refine xm_E_s r_X11_meaning_23 rfl rfl ?_
  refine xm_E_t q2 ?_
  refine xm_E_s r_X11_meaning_24 rfl rfl ?_
  refine xm_E_s r_X11_meaning_25 rfl rfl ?_
  refine xm_E_f q1 ?_
  refine xm_E_s r_X11_meaning_28 rfl rfl ?_
  refine xm_E_s r_X11_meaning_29 rfl rfl ?_
  refine xm_E_s r_X11_meaning_30 rfl rfl ?_
  refine xm_E_t q4 ?_
  refine xm_E_s r_X11_meaning_31 rfl rfl ?_
  refine xm_E_s r_X11_meaning_32 rfl rfl ?_
  refine xm_E_s r_X11_meaning_33 rfl rfl ?_
  refine xm_E_f q5 ?_
  refine xm_E_s r_X11_meaning_36 rfl rfl ?_
  refine xm_E_s r_X11_meaning_37 rfl rfl ?_
  refine xm_E_s r_X11_meaning_38 rfl rfl ?_
  refine xm_E_f q6 ?_
  refine xm_E_s r_X11_meaning_44 rfl rfl ?_
  refine xm_E_s r_X11_meaning_45 rfl rfl ?_
  refine xm_E_s r_X11_meaning_46 rfl rfl ?_
  refine xm_E_t q4 ?_
  refine xm_E_s r_X11_meaning_47 rfl rfl ?_
  refine xm_E_s r_X11_meaning_48 rfl rfl ?_
  refine xm_E_s r_X11_meaning_49 rfl rfl ?_
  refine xm_E_f q7 ?_
  refine xm_E_s r_X11_meaning_52 rfl rfl ?_
  exact xm_E_iret r_X11_meaning_53 rfl rfl
theorem w_X11_meaning_0_7 {X : xm_X} {P : List xm_M} {d : Nat} {h : xm_H} {l0 : Int32} {l1 : Int32} (q0 : l0 = (0 : Int32)) (q1 : ¬ (l1 = (0 : Int32))) (q2 : l0 = (1 : Int32)) (q3 : ¬ (l1 = (1 : Int32))) (q4 : ¬ (l0 = (2 : Int32))) (q5 : l0 = (3 : Int32)) (q6 : l1 = (2 : Int32)) : xm_E X P d co_X11_meaning 0 [some (.int l0), some (.int l1)] [] h (some (.int (4 : Int32))) h := by
  refine xm_E_s r_X11_meaning_0 rfl rfl ?_
  refine xm_E_s r_X11_meaning_1 rfl rfl ?_
  refine xm_E_t q0 ?_
  refine xm_E_s r_X11_meaning_2 rfl rfl ?_
  refine xm_E_s r_X11_meaning_3 rfl rfl ?_
  refine xm_E_f q1 ?_
  refine xm_E_s r_X11_meaning_6 rfl rfl ?_
  refine xm_E_s r_X11_meaning_7 rfl rfl ?_
  refine xm_E_s r_X11_meaning_8 rfl rfl ?_
  refine xm_E_t q2 ?_
  refine xm_E_s r_X11_meaning_9 rfl rfl ?_
  refine xm_E_s r_X11_meaning_10 rfl rfl ?_
  refine xm_E_s r_X11_meaning_11 rfl rfl ?_
  refine xm_E_f q3 ?_
  refine xm_E_s r_X11_meaning_14 rfl rfl ?_
  refine xm_E_s r_X11_meaning_15 rfl rfl ?_
  refine xm_E_t q0 ?_
  refine xm_E_s r_X11_meaning_16 rfl rfl ?_
  refine xm_E_s r_X11_meaning_17 rfl rfl ?_
  refine xm_E_s r_X11_meaning_18 rfl rfl ?_
  refine xm_E_f q3 ?_
  refine xm_E_s r_X11_meaning_21 rfl rfl ?_
  refine xm_E_s r_X11_meaning_22 rfl rfl ?_
  refine xm_E_s r_X11_meaning_23 rfl rfl ?_
  refine xm_E_t q2 ?_
  refine xm_E_s r_X11_meaning_24 rfl rfl ?_
  refine xm_E_s r_X11_meaning_25 rfl rfl ?_
  refine xm_E_f q1 ?_
  refine xm_E_s r_X11_meaning_28 rfl rfl ?_
  refine xm_E_s r_X11_meaning_29 rfl rfl ?_
  refine xm_E_s r_X11_meaning_30 rfl rfl ?_
  refine xm_E_f q4 ?_
  refine xm_E_s r_X11_meaning_36 rfl rfl ?_
  refine xm_E_s r_X11_meaning_37 rfl rfl ?_
  refine xm_E_s r_X11_meaning_38 rfl rfl ?_
  refine xm_E_t q5 ?_
  refine xm_E_s r_X11_meaning_39 rfl rfl ?_
  refine xm_E_s r_X11_meaning_40 rfl rfl ?_
  refine xm_E_s r_X11_meaning_41 rfl rfl ?_
  refine xm_E_t q6 ?_
  refine xm_E_s r_X11_meaning_42 rfl rfl ?_
  exact xm_E_iret r_X11_meaning_43 rfl rfl
theorem w_X11_meaning_0_8 {X : xm_X} {P : List xm_M} {d : Nat} {h : xm_H} {l0 : Int32} {l1 : Int32} (q0 : l0 = (0 : Int32)) (q1 : ¬ (l1 = (0 : Int32))) (q2 : l0 = (1 : Int32)) (q3 : ¬ (l1 = (1 : Int32))) (q4 : ¬ (l0 = (2 : Int32))) (q5 : l0 = (3 : Int32)) (q6 : ¬ (l1 = (2 : Int32))) : xm_E X P d co_X11_meaning 0 [some (.int l0), some (.int l1)] [] h (some (.int (12 : Int32))) h := by
  refine xm_E_s r_X11_meaning_0 rfl rfl ?_
  refine xm_E_s r_X11_meaning_1 rfl rfl ?_
  refine xm_E_t q0 ?_
  refine xm_E_s r_X11_meaning_2 rfl rfl ?_
  refine xm_E_s r_X11_meaning_3 rfl rfl ?_
  refine xm_E_f q1 ?_
  refine xm_E_s r_X11_meaning_6 rfl rfl ?_
  refine xm_E_s r_X11_meaning_7 rfl rfl ?_
  refine xm_E_s r_X11_meaning_8 rfl rfl ?_
  refine xm_E_t q2 ?_
  refine xm_E_s r_X11_meaning_9 rfl rfl ?_
  refine xm_E_s r_X11_meaning_10 rfl rfl ?_
  refine xm_E_s r_X11_meaning_11 rfl rfl ?_
  refine xm_E_f q3 ?_
  refine xm_E_s r_X11_meaning_14 rfl rfl ?_
  refine xm_E_s r_X11_meaning_15 rfl rfl ?_
  refine xm_E_t q0 ?_
  refine xm_E_s r_X11_meaning_16 rfl rfl ?_
  refine xm_E_s r_X11_meaning_17 rfl rfl ?_
  refine xm_E_s r_X11_meaning_18 rfl rfl ?_
  refine xm_E_f q3 ?_
  refine xm_E_s r_X11_meaning_21 rfl rfl ?_
  refine xm_E_s r_X11_meaning_22 rfl rfl ?_
  refine xm_E_s r_X11_meaning_23 rfl rfl ?_
  refine xm_E_t q2 ?_
  refine xm_E_s r_X11_meaning_24 rfl rfl ?_
  refine xm_E_s r_X11_meaning_25 rfl rfl ?_
  refine xm_E_f q1 ?_
  refine xm_E_s r_X11_meaning_28 rfl rfl ?_
  refine xm_E_s r_X11_meaning_29 rfl rfl ?_
  refine xm_E_s r_X11_meaning_30 rfl rfl ?_
  refine xm_E_f q4 ?_
  refine xm_E_s r_X11_meaning_36 rfl rfl ?_
  refine xm_E_s r_X11_meaning_37 rfl rfl ?_
  refine xm_E_s r_X11_meaning_38 rfl rfl ?_
  refine xm_E_t q5 ?_
  refine xm_E_s r_X11_meaning_39 rfl rfl ?_
  refine xm_E_s r_X11_meaning_40 rfl rfl ?_
  refine xm_E_s r_X11_meaning_41 rfl rfl ?_
  refine xm_E_f q6 ?_
  refine xm_E_s r_X11_meaning_44 rfl rfl ?_
  refine xm_E_s r_X11_meaning_45 rfl rfl ?_
  refine xm_E_s r_X11_meaning_46 rfl rfl ?_
  refine xm_E_f q4 ?_
  refine xm_E_s r_X11_meaning_52 rfl rfl ?_
  exact xm_E_iret r_X11_meaning_53 rfl rfl
theorem w_X11_meaning_0_9 {X : xm_X} {P : List xm_M} {d : Nat} {h : xm_H} {l0 : Int32} {l1 : Int32} (q0 : l0 = (0 : Int32)) (q1 : ¬ (l1 = (0 : Int32))) (q2 : l0 = (1 : Int32)) (q3 : ¬ (l1 = (1 : Int32))) (q4 : ¬ (l0 = (2 : Int32))) (q5 : ¬ (l0 = (3 : Int32))) : xm_E X P d co_X11_meaning 0 [some (.int l0), some (.int l1)] [] h (some (.int (12 : Int32))) h := by
  refine xm_E_s r_X11_meaning_0 rfl rfl ?_
  refine xm_E_s r_X11_meaning_1 rfl rfl ?_
  refine xm_E_t q0 ?_
  refine xm_E_s r_X11_meaning_2 rfl rfl ?_
  refine xm_E_s r_X11_meaning_3 rfl rfl ?_
  refine xm_E_f q1 ?_
  refine xm_E_s r_X11_meaning_6 rfl rfl ?_
  refine xm_E_s r_X11_meaning_7 rfl rfl ?_
  refine xm_E_s r_X11_meaning_8 rfl rfl ?_
  refine xm_E_t q2 ?_
  refine xm_E_s r_X11_meaning_9 rfl rfl ?_
  refine xm_E_s r_X11_meaning_10 rfl rfl ?_
  refine xm_E_s r_X11_meaning_11 rfl rfl ?_
  refine xm_E_f q3 ?_
  refine xm_E_s r_X11_meaning_14 rfl rfl ?_
  refine xm_E_s r_X11_meaning_15 rfl rfl ?_
  refine xm_E_t q0 ?_
  refine xm_E_s r_X11_meaning_16 rfl rfl ?_
  refine xm_E_s r_X11_meaning_17 rfl rfl ?_
  refine xm_E_s r_X11_meaning_18 rfl rfl ?_
  refine xm_E_f q3 ?_
  refine xm_E_s r_X11_meaning_21 rfl rfl ?_
  refine xm_E_s r_X11_meaning_22 rfl rfl ?_
  refine xm_E_s r_X11_meaning_23 rfl rfl ?_
  refine xm_E_t q2 ?_
  refine xm_E_s r_X11_meaning_24 rfl rfl ?_
  refine xm_E_s r_X11_meaning_25 rfl rfl ?_
  refine xm_E_f q1 ?_
  refine xm_E_s r_X11_meaning_28 rfl rfl ?_
  refine xm_E_s r_X11_meaning_29 rfl rfl ?_
  refine xm_E_s r_X11_meaning_30 rfl rfl ?_
  refine xm_E_f q4 ?_
  refine xm_E_s r_X11_meaning_36 rfl rfl ?_
  refine xm_E_s r_X11_meaning_37 rfl rfl ?_
  refine xm_E_s r_X11_meaning_38 rfl rfl ?_
  refine xm_E_f q5 ?_
  refine xm_E_s r_X11_meaning_44 rfl rfl ?_
  refine xm_E_s r_X11_meaning_45 rfl rfl ?_
  refine xm_E_s r_X11_meaning_46 rfl rfl ?_
  refine xm_E_f q4 ?_
  refine xm_E_s r_X11_meaning_52 rfl rfl ?_
  exact xm_E_iret r_X11_meaning_53 rfl rfl
theorem w_X11_meaning_0_10 {X : xm_X} {P : List xm_M} {d : Nat} {h : xm_H} {l0 : Int32} {l1 : Int32} (q0 : l0 = (0 : Int32)) (q1 : ¬ (l1 = (0 : Int32))) (q2 : ¬ (l0 = (1 : Int32))) (q3 : l1 = (1 : Int32)) : xm_E X P d co_X11_meaning 0 [some (.int l0), some (.int l1)] [] h (some (.int (10 : Int32))) h := by
  refine xm_E_s r_X11_meaning_0 rfl rfl ?_
  refine xm_E_s r_X11_meaning_1 rfl rfl ?_
  refine xm_E_t q0 ?_
  refine xm_E_s r_X11_meaning_2 rfl rfl ?_
  refine xm_E_s r_X11_meaning_3 rfl rfl ?_
  refine xm_E_f q1 ?_
  refine xm_E_s r_X11_meaning_6 rfl rfl ?_
  refine xm_E_s r_X11_meaning_7 rfl rfl ?_
  refine xm_E_s r_X11_meaning_8 rfl rfl ?_
  refine xm_E_f q2 ?_
  refine xm_E_s r_X11_meaning_14 rfl rfl ?_
  refine xm_E_s r_X11_meaning_15 rfl rfl ?_
  refine xm_E_t q0 ?_
  refine xm_E_s r_X11_meaning_16 rfl rfl ?_
  refine xm_E_s r_X11_meaning_17 rfl rfl ?_
  refine xm_E_s r_X11_meaning_18 rfl rfl ?_
  refine xm_E_t q3 ?_
  refine xm_E_s r_X11_meaning_19 rfl rfl ?_
  exact xm_E_iret r_X11_meaning_20 rfl rfl
theorem w_X11_meaning_0_11 {X : xm_X} {P : List xm_M} {d : Nat} {h : xm_H} {l0 : Int32} {l1 : Int32} (q0 : l0 = (0 : Int32)) (q1 : ¬ (l1 = (0 : Int32))) (q2 : ¬ (l0 = (1 : Int32))) (q3 : ¬ (l1 = (1 : Int32))) (q4 : l0 = (2 : Int32)) (q5 : l1 = (3 : Int32)) : xm_E X P d co_X11_meaning 0 [some (.int l0), some (.int l1)] [] h (some (.int (3 : Int32))) h := by
  refine xm_E_s r_X11_meaning_0 rfl rfl ?_
  refine xm_E_s r_X11_meaning_1 rfl rfl ?_
  refine xm_E_t q0 ?_
  refine xm_E_s r_X11_meaning_2 rfl rfl ?_
  refine xm_E_s r_X11_meaning_3 rfl rfl ?_
  refine xm_E_f q1 ?_
  refine xm_E_s r_X11_meaning_6 rfl rfl ?_
  refine xm_E_s r_X11_meaning_7 rfl rfl ?_
  refine xm_E_s r_X11_meaning_8 rfl rfl ?_
  refine xm_E_f q2 ?_
  refine xm_E_s r_X11_meaning_14 rfl rfl ?_
  refine xm_E_s r_X11_meaning_15 rfl rfl ?_
  refine xm_E_t q0 ?_
  refine xm_E_s r_X11_meaning_16 rfl rfl ?_
  refine xm_E_s r_X11_meaning_17 rfl rfl ?_
  refine xm_E_s r_X11_meaning_18 rfl rfl ?_
  refine xm_E_f q3 ?_
  refine xm_E_s r_X11_meaning_21 rfl rfl ?_
  refine xm_E_s r_X11_meaning_22 rfl rfl ?_
  refine xm_E_s r_X11_meaning_23 rfl rfl ?_
  refine xm_E_f q2 ?_
  refine xm_E_s r_X11_meaning_28 rfl rfl ?_
  refine xm_E_s r_X11_meaning_29 rfl rfl ?_
  refine xm_E_s r_X11_meaning_30 rfl rfl ?_
  refine xm_E_t q4 ?_
  refine xm_E_s r_X11_meaning_31 rfl rfl ?_
  refine xm_E_s r_X11_meaning_32 rfl rfl ?_
  refine xm_E_s r_X11_meaning_33 rfl rfl ?_
  refine xm_E_t q5 ?_
  refine xm_E_s r_X11_meaning_34 rfl rfl ?_
  exact xm_E_iret r_X11_meaning_35 rfl rfl
theorem w_X11_meaning_0_12 {X : xm_X} {P : List xm_M} {d : Nat} {h : xm_H} {l0 : Int32} {l1 : Int32} (q0 : l0 = (0 : Int32)) (q1 : ¬ (l1 = (0 : Int32))) (q2 : ¬ (l0 = (1 : Int32))) (q3 : ¬ (l1 = (1 : Int32))) (q4 : l0 = (2 : Int32)) (q5 : ¬ (l1 = (3 : Int32))) (q6 : l0 = (3 : Int32)) (q7 : l1 = (2 : Int32)) : xm_E X P d co_X11_meaning 0 [some (.int l0), some (.int l1)] [] h (some (.int (4 : Int32))) h := by
  refine xm_E_s r_X11_meaning_0 rfl rfl ?_
  refine xm_E_s r_X11_meaning_1 rfl rfl ?_
  refine xm_E_t q0 ?_
  refine xm_E_s r_X11_meaning_2 rfl rfl ?_
  refine xm_E_s r_X11_meaning_3 rfl rfl ?_
  refine xm_E_f q1 ?_
  refine xm_E_s r_X11_meaning_6 rfl rfl ?_
  refine xm_E_s r_X11_meaning_7 rfl rfl ?_
  refine xm_E_s r_X11_meaning_8 rfl rfl ?_
  refine xm_E_f q2 ?_
  refine xm_E_s r_X11_meaning_14 rfl rfl ?_
  refine xm_E_s r_X11_meaning_15 rfl rfl ?_
  refine xm_E_t q0 ?_
  refine xm_E_s r_X11_meaning_16 rfl rfl ?_
  refine xm_E_s r_X11_meaning_17 rfl rfl ?_
  refine xm_E_s r_X11_meaning_18 rfl rfl ?_
  refine xm_E_f q3 ?_
  refine xm_E_s r_X11_meaning_21 rfl rfl ?_
  refine xm_E_s r_X11_meaning_22 rfl rfl ?_
  refine xm_E_s r_X11_meaning_23 rfl rfl ?_
  refine xm_E_f q2 ?_
  refine xm_E_s r_X11_meaning_28 rfl rfl ?_
  refine xm_E_s r_X11_meaning_29 rfl rfl ?_
  refine xm_E_s r_X11_meaning_30 rfl rfl ?_
  refine xm_E_t q4 ?_
  refine xm_E_s r_X11_meaning_31 rfl rfl ?_
  refine xm_E_s r_X11_meaning_32 rfl rfl ?_
  refine xm_E_s r_X11_meaning_33 rfl rfl ?_
  refine xm_E_f q5 ?_
  refine xm_E_s r_X11_meaning_36 rfl rfl ?_
  refine xm_E_s r_X11_meaning_37 rfl rfl ?_
  refine xm_E_s r_X11_meaning_38 rfl rfl ?_
  refine xm_E_t q6 ?_
  refine xm_E_s r_X11_meaning_39 rfl rfl ?_
  refine xm_E_s r_X11_meaning_40 rfl rfl ?_
  refine xm_E_s r_X11_meaning_41 rfl rfl ?_
  refine xm_E_t q7 ?_
  refine xm_E_s r_X11_meaning_42 rfl rfl ?_
  exact xm_E_iret r_X11_meaning_43 rfl rfl
theorem w_X11_meaning_0_13 {X : xm_X} {P : List xm_M} {d : Nat} {h : xm_H} {l0 : Int32} {l1 : Int32} (q0 : l0 = (0 : Int32)) (q1 : ¬ (l1 = (0 : Int32))) (q2 : ¬ (l0 = (1 : Int32))) (q3 : ¬ (l1 = (1 : Int32))) (q4 : l0 = (2 : Int32)) (q5 : ¬ (l1 = (3 : Int32))) (q6 : l0 = (3 : Int32)) (q7 : ¬ (l1 = (2 : Int32))) : xm_E X P d co_X11_meaning 0 [some (.int l0), some (.int l1)] [] h (some (.int (12 : Int32))) h := by
  refine xm_E_s r_X11_meaning_0 rfl rfl ?_
  refine xm_E_s r_X11_meaning_1 rfl rfl ?_
  refine xm_E_t q0 ?_
  refine xm_E_s r_X11_meaning_2 rfl rfl ?_
  refine xm_E_s r_X11_meaning_3 rfl rfl ?_
  refine xm_E_f q1 ?_
  refine xm_E_s r_X11_meaning_6 rfl rfl ?_
  refine xm_E_s r_X11_meaning_7 rfl rfl ?_
  refine xm_E_s r_X11_meaning_8 rfl rfl ?_
  refine xm_E_f q2 ?_
  refine xm_E_s r_X11_meaning_14 rfl rfl ?_
  refine xm_E_s r_X11_meaning_15 rfl rfl ?_
  refine xm_E_t q0 ?_
  refine xm_E_s r_X11_meaning_16 rfl rfl ?_
  refine xm_E_s r_X11_meaning_17 rfl rfl ?_
  refine xm_E_s r_X11_meaning_18 rfl rfl ?_
  refine xm_E_f q3 ?_
  refine xm_E_s r_X11_meaning_21 rfl rfl ?_
  refine xm_E_s r_X11_meaning_22 rfl rfl ?_
  refine xm_E_s r_X11_meaning_23 rfl rfl ?_
  refine xm_E_f q2 ?_
  refine xm_E_s r_X11_meaning_28 rfl rfl ?_
  refine xm_E_s r_X11_meaning_29 rfl rfl ?_
  refine xm_E_s r_X11_meaning_30 rfl rfl ?_
  refine xm_E_t q4 ?_
  refine xm_E_s r_X11_meaning_31 rfl rfl ?_
  refine xm_E_s r_X11_meaning_32 rfl rfl ?_
  refine xm_E_s r_X11_meaning_33 rfl rfl ?_
  refine xm_E_f q5 ?_
  refine xm_E_s r_X11_meaning_36 rfl rfl ?_
  refine xm_E_s r_X11_meaning_37 rfl rfl ?_
  refine xm_E_s r_X11_meaning_38 rfl rfl ?_
  refine xm_E_t q6 ?_
  refine xm_E_s r_X11_meaning_39 rfl rfl ?_
  refine xm_E_s r_X11_meaning_40 rfl rfl ?_
  refine xm_E_s r_X11_meaning_41 rfl rfl ?_
  refine xm_E_f q7 ?_
  refine xm_E_s r_X11_meaning_44 rfl rfl ?_
  refine xm_E_s r_X11_meaning_45 rfl rfl ?_
  refine xm_E_s r_X11_meaning_46 rfl rfl ?_
  refine xm_E_t q4 ?_
  refine xm_E_s r_X11_meaning_47 rfl rfl ?_
  refine xm_E_s r_X11_meaning_48 rfl rfl ?_
  refine xm_E_s r_X11_meaning_49 rfl rfl ?_
  refine xm_E_f q7 ?_
  refine xm_E_s r_X11_meaning_52 rfl rfl ?_
  exact xm_E_iret r_X11_meaning_53 rfl rfl
theorem w_X11_meaning_0_14 {X : xm_X} {P : List xm_M} {d : Nat} {h : xm_H} {l0 : Int32} {l1 : Int32} (q0 : l0 = (0 : Int32)) (q1 : ¬ (l1 = (0 : Int32))) (q2 : ¬ (l0 = (1 : Int32))) (q3 : ¬ (l1 = (1 : Int32))) (q4 : l0 = (2 : Int32)) (q5 : ¬ (l1 = (3 : Int32))) (q6 : ¬ (l0 = (3 : Int32))) (q7 : l1 = (2 : Int32)) : xm_E X P d co_X11_meaning 0 [some (.int l0), some (.int l1)] [] h (some (.int (5 : Int32))) h := by
  refine xm_E_s r_X11_meaning_0 rfl rfl ?_
  refine xm_E_s r_X11_meaning_1 rfl rfl ?_
  refine xm_E_t q0 ?_
  refine xm_E_s r_X11_meaning_2 rfl rfl ?_
  refine xm_E_s r_X11_meaning_3 rfl rfl ?_
  refine xm_E_f q1 ?_
  refine xm_E_s r_X11_meaning_6 rfl rfl ?_
  refine xm_E_s r_X11_meaning_7 rfl rfl ?_
  refine xm_E_s r_X11_meaning_8 rfl rfl ?_
  refine xm_E_f q2 ?_
  refine xm_E_s r_X11_meaning_14 rfl rfl ?_
  refine xm_E_s r_X11_meaning_15 rfl rfl ?_
  refine xm_E_t q0 ?_
  refine xm_E_s r_X11_meaning_16 rfl rfl ?_
  refine xm_E_s r_X11_meaning_17 rfl rfl ?_
  refine xm_E_s r_X11_meaning_18 rfl rfl ?_
  refine xm_E_f q3 ?_
  refine xm_E_s r_X11_meaning_21 rfl rfl ?_
  refine xm_E_s r_X11_meaning_22 rfl rfl ?_
  refine xm_E_s r_X11_meaning_23 rfl rfl ?_
  refine xm_E_f q2 ?_
  refine xm_E_s r_X11_meaning_28 rfl rfl ?_
  refine xm_E_s r_X11_meaning_29 rfl rfl ?_
  refine xm_E_s r_X11_meaning_30 rfl rfl ?_
  refine xm_E_t q4 ?_
  refine xm_E_s r_X11_meaning_31 rfl rfl ?_
  refine xm_E_s r_X11_meaning_32 rfl rfl ?_
  refine xm_E_s r_X11_meaning_33 rfl rfl ?_
  refine xm_E_f q5 ?_
  refine xm_E_s r_X11_meaning_36 rfl rfl ?_
  refine xm_E_s r_X11_meaning_37 rfl rfl ?_
  refine xm_E_s r_X11_meaning_38 rfl rfl ?_
  refine xm_E_f q6 ?_
  refine xm_E_s r_X11_meaning_44 rfl rfl ?_
  refine xm_E_s r_X11_meaning_45 rfl rfl ?_
  refine xm_E_s r_X11_meaning_46 rfl rfl ?_
  refine xm_E_t q4 ?_
  refine xm_E_s r_X11_meaning_47 rfl rfl ?_
  refine xm_E_s r_X11_meaning_48 rfl rfl ?_
  refine xm_E_s r_X11_meaning_49 rfl rfl ?_
  refine xm_E_t q7 ?_
  refine xm_E_s r_X11_meaning_50 rfl rfl ?_
  refine xm_E_s r_X11_meaning_51 rfl rfl ?_
  exact xm_E_iret r_X11_meaning_53 rfl rfl
theorem w_X11_meaning_0_15 {X : xm_X} {P : List xm_M} {d : Nat} {h : xm_H} {l0 : Int32} {l1 : Int32} (q0 : l0 = (0 : Int32)) (q1 : ¬ (l1 = (0 : Int32))) (q2 : ¬ (l0 = (1 : Int32))) (q3 : ¬ (l1 = (1 : Int32))) (q4 : l0 = (2 : Int32)) (q5 : ¬ (l1 = (3 : Int32))) (q6 : ¬ (l0 = (3 : Int32))) (q7 : ¬ (l1 = (2 : Int32))) : xm_E X P d co_X11_meaning 0 [some (.int l0), some (.int l1)] [] h (some (.int (12 : Int32))) h := by
  refine xm_E_s r_X11_meaning_0 rfl rfl ?_
  refine xm_E_s r_X11_meaning_1 rfl rfl ?_
  refine xm_E_t q0 ?_
  refine xm_E_s r_X11_meaning_2 rfl rfl ?_
  refine xm_E_s r_X11_meaning_3 rfl rfl ?_
  refine xm_E_f q1 ?_
  refine xm_E_s r_X11_meaning_6 rfl rfl ?_
  refine xm_E_s r_X11_meaning_7 rfl rfl ?_
  refine xm_E_s r_X11_meaning_8 rfl rfl ?_
  refine xm_E_f q2 ?_
  refine xm_E_s r_X11_meaning_14 rfl rfl ?_
  refine xm_E_s r_X11_meaning_15 rfl rfl ?_
  refine xm_E_t q0 ?_
  refine xm_E_s r_X11_meaning_16 rfl rfl ?_
  refine xm_E_s r_X11_meaning_17 rfl rfl ?_
  refine xm_E_s r_X11_meaning_18 rfl rfl ?_
  refine xm_E_f q3 ?_
  refine xm_E_s r_X11_meaning_21 rfl rfl ?_
  refine xm_E_s r_X11_meaning_22 rfl rfl ?_
  refine xm_E_s r_X11_meaning_23 rfl rfl ?_
  refine xm_E_f q2 ?_
  refine xm_E_s r_X11_meaning_28 rfl rfl ?_
  refine xm_E_s r_X11_meaning_29 rfl rfl ?_
  refine xm_E_s r_X11_meaning_30 rfl rfl ?_
  refine xm_E_t q4 ?_
  refine xm_E_s r_X11_meaning_31 rfl rfl ?_
  refine xm_E_s r_X11_meaning_32 rfl rfl ?_
  refine xm_E_s r_X11_meaning_33 rfl rfl ?_
  refine xm_E_f q5 ?_
  refine xm_E_s r_X11_meaning_36 rfl rfl ?_
  refine xm_E_s r_X11_meaning_37 rfl rfl ?_
  refine xm_E_s r_X11_meaning_38 rfl rfl ?_
  refine xm_E_f q6 ?_
  refine xm_E_s r_X11_meaning_44 rfl rfl ?_
  refine xm_E_s r_X11_meaning_45 rfl rfl ?_
  refine xm_E_s r_X11_meaning_46 rfl rfl ?_
  refine xm_E_t q4 ?_
  refine xm_E_s r_X11_meaning_47 rfl rfl ?_
  refine xm_E_s r_X11_meaning_48 rfl rfl ?_
  refine xm_E_s r_X11_meaning_49 rfl rfl ?_
  refine xm_E_f q7 ?_
  refine xm_E_s r_X11_meaning_52 rfl rfl ?_
  exact xm_E_iret r_X11_meaning_53 rfl rfl
theorem w_X11_meaning_0_16 {X : xm_X} {P : List xm_M} {d : Nat} {h : xm_H} {l0 : Int32} {l1 : Int32} (q0 : l0 = (0 : Int32)) (q1 : ¬ (l1 = (0 : Int32))) (q2 : ¬ (l0 = (1 : Int32))) (q3 : ¬ (l1 = (1 : Int32))) (q4 : ¬ (l0 = (2 : Int32))) (q5 : l0 = (3 : Int32)) (q6 : l1 = (2 : Int32)) : xm_E X P d co_X11_meaning 0 [some (.int l0), some (.int l1)] [] h (some (.int (4 : Int32))) h := by
  refine xm_E_s r_X11_meaning_0 rfl rfl ?_
  refine xm_E_s r_X11_meaning_1 rfl rfl ?_
  refine xm_E_t q0 ?_
  refine xm_E_s r_X11_meaning_2 rfl rfl ?_
  refine xm_E_s r_X11_meaning_3 rfl rfl ?_
  refine xm_E_f q1 ?_
  refine xm_E_s r_X11_meaning_6 rfl rfl ?_
  refine xm_E_s r_X11_meaning_7 rfl rfl ?_
  refine xm_E_s r_X11_meaning_8 rfl rfl ?_
  refine xm_E_f q2 ?_
  refine xm_E_s r_X11_meaning_14 rfl rfl ?_
  refine xm_E_s r_X11_meaning_15 rfl rfl ?_
  refine xm_E_t q0 ?_
  refine xm_E_s r_X11_meaning_16 rfl rfl ?_
  refine xm_E_s r_X11_meaning_17 rfl rfl ?_
  refine xm_E_s r_X11_meaning_18 rfl rfl ?_
  refine xm_E_f q3 ?_
  refine xm_E_s r_X11_meaning_21 rfl rfl ?_
  refine xm_E_s r_X11_meaning_22 rfl rfl ?_
  refine xm_E_s r_X11_meaning_23 rfl rfl ?_
  refine xm_E_f q2 ?_
  refine xm_E_s r_X11_meaning_28 rfl rfl ?_
  refine xm_E_s r_X11_meaning_29 rfl rfl ?_
  refine xm_E_s r_X11_meaning_30 rfl rfl ?_
  refine xm_E_f q4 ?_
  refine xm_E_s r_X11_meaning_36 rfl rfl ?_
  refine xm_E_s r_X11_meaning_37 rfl rfl ?_
  refine xm_E_s r_X11_meaning_38 rfl rfl ?_
  refine xm_E_t q5 ?_
  refine xm_E_s r_X11_meaning_39 rfl rfl ?_
  refine xm_E_s r_X11_meaning_40 rfl rfl ?_
  refine xm_E_s r_X11_meaning_41 rfl rfl ?_
  refine xm_E_t q6 ?_
  refine xm_E_s r_X11_meaning_42 rfl rfl ?_
  exact xm_E_iret r_X11_meaning_43 rfl rfl
theorem w_X11_meaning_0_17 {X : xm_X} {P : List xm_M} {d : Nat} {h : xm_H} {l0 : Int32} {l1 : Int32} (q0 : l0 = (0 : Int32)) (q1 : ¬ (l1 = (0 : Int32))) (q2 : ¬ (l0 = (1 : Int32))) (q3 : ¬ (l1 = (1 : Int32))) (q4 : ¬ (l0 = (2 : Int32))) (q5 : l0 = (3 : Int32)) (q6 : ¬ (l1 = (2 : Int32))) : xm_E X P d co_X11_meaning 0 [some (.int l0), some (.int l1)] [] h (some (.int (12 : Int32))) h := by
  refine xm_E_s r_X11_meaning_0 rfl rfl ?_
  refine xm_E_s r_X11_meaning_1 rfl rfl ?_
  refine xm_E_t q0 ?_
  refine xm_E_s r_X11_meaning_2 rfl rfl ?_
  refine xm_E_s r_X11_meaning_3 rfl rfl ?_
  refine xm_E_f q1 ?_
  refine xm_E_s r_X11_meaning_6 rfl rfl ?_
  refine xm_E_s r_X11_meaning_7 rfl rfl ?_
  refine xm_E_s r_X11_meaning_8 rfl rfl ?_
  refine xm_E_f q2 ?_
  refine xm_E_s r_X11_meaning_14 rfl rfl ?_
  refine xm_E_s r_X11_meaning_15 rfl rfl ?_
  refine xm_E_t q0 ?_
  refine xm_E_s r_X11_meaning_16 rfl rfl ?_
  refine xm_E_s r_X11_meaning_17 rfl rfl ?_
  refine xm_E_s r_X11_meaning_18 rfl rfl ?_
  refine xm_E_f q3 ?_
  refine xm_E_s r_X11_meaning_21 rfl rfl ?_
  refine xm_E_s r_X11_meaning_22 rfl rfl ?_
  refine xm_E_s r_X11_meaning_23 rfl rfl ?_
  refine xm_E_f q2 ?_
  refine xm_E_s r_X11_meaning_28 rfl rfl ?_
  refine xm_E_s r_X11_meaning_29 rfl rfl ?_
  refine xm_E_s r_X11_meaning_30 rfl rfl ?_
  refine xm_E_f q4 ?_
  refine xm_E_s r_X11_meaning_36 rfl rfl ?_
  refine xm_E_s r_X11_meaning_37 rfl rfl ?_
  refine xm_E_s r_X11_meaning_38 rfl rfl ?_
  refine xm_E_t q5 ?_
  refine xm_E_s r_X11_meaning_39 rfl rfl ?_
  refine xm_E_s r_X11_meaning_40 rfl rfl ?_
  refine xm_E_s r_X11_meaning_41 rfl rfl ?_
  refine xm_E_f q6 ?_
  refine xm_E_s r_X11_meaning_44 rfl rfl ?_
  refine xm_E_s r_X11_meaning_45 rfl rfl ?_
  refine xm_E_s r_X11_meaning_46 rfl rfl ?_
  refine xm_E_f q4 ?_
  refine xm_E_s r_X11_meaning_52 rfl rfl ?_
  exact xm_E_iret r_X11_meaning_53 rfl rfl
theorem w_X11_meaning_0_18 {X : xm_X} {P : List xm_M} {d : Nat} {h : xm_H} {l0 : Int32} {l1 : Int32} (q0 : l0 = (0 : Int32)) (q1 : ¬ (l1 = (0 : Int32))) (q2 : ¬ (l0 = (1 : Int32))) (q3 : ¬ (l1 = (1 : Int32))) (q4 : ¬ (l0 = (2 : Int32))) (q5 : ¬ (l0 = (3 : Int32))) : xm_E X P d co_X11_meaning 0 [some (.int l0), some (.int l1)] [] h (some (.int (12 : Int32))) h := by
  refine xm_E_s r_X11_meaning_0 rfl rfl ?_
  refine xm_E_s r_X11_meaning_1 rfl rfl ?_
  refine xm_E_t q0 ?_
  refine xm_E_s r_X11_meaning_2 rfl rfl ?_
  refine xm_E_s r_X11_meaning_3 rfl rfl ?_
  refine xm_E_f q1 ?_
  refine xm_E_s r_X11_meaning_6 rfl rfl ?_
  refine xm_E_s r_X11_meaning_7 rfl rfl ?_
  refine xm_E_s r_X11_meaning_8 rfl rfl ?_
  refine xm_E_f q2 ?_
  refine xm_E_s r_X11_meaning_14 rfl rfl ?_
  refine xm_E_s r_X11_meaning_15 rfl rfl ?_
  refine xm_E_t q0 ?_
  refine xm_E_s r_X11_meaning_16 rfl rfl ?_
  refine xm_E_s r_X11_meaning_17 rfl rfl ?_
  refine xm_E_s r_X11_meaning_18 rfl rfl ?_
  refine xm_E_f q3 ?_
  refine xm_E_s r_X11_meaning_21 rfl rfl ?_
  refine xm_E_s r_X11_meaning_22 rfl rfl ?_
  refine xm_E_s r_X11_meaning_23 rfl rfl ?_
  refine xm_E_f q2 ?_
  refine xm_E_s r_X11_meaning_28 rfl rfl ?_
  refine xm_E_s r_X11_meaning_29 rfl rfl ?_
  refine xm_E_s r_X11_meaning_30 rfl rfl ?_
  refine xm_E_f q4 ?_
  refine xm_E_s r_X11_meaning_36 rfl rfl ?_
  refine xm_E_s r_X11_meaning_37 rfl rfl ?_
  refine xm_E_s r_X11_meaning_38 rfl rfl ?_
  refine xm_E_f q5 ?_
  refine xm_E_s r_X11_meaning_44 rfl rfl ?_
  refine xm_E_s r_X11_meaning_45 rfl rfl ?_
  refine xm_E_s r_X11_meaning_46 rfl rfl ?_
  refine xm_E_f q4 ?_
  refine xm_E_s r_X11_meaning_52 rfl rfl ?_
  exact xm_E_iret r_X11_meaning_53 rfl rfl
theorem w_X11_meaning_0_19 {X : xm_X} {P : List xm_M} {d : Nat} {h : xm_H} {l0 : Int32} {l1 : Int32} (q0 : ¬ (l0 = (0 : Int32))) (q1 : l0 = (1 : Int32)) (q2 : l1 = (1 : Int32)) : xm_E X P d co_X11_meaning 0 [some (.int l0), some (.int l1)] [] h (some (.int (1 : Int32))) h := by
  refine xm_E_s r_X11_meaning_0 rfl rfl ?_
  refine xm_E_s r_X11_meaning_1 rfl rfl ?_
  refine xm_E_f q0 ?_
  refine xm_E_s r_X11_meaning_6 rfl rfl ?_
  refine xm_E_s r_X11_meaning_7 rfl rfl ?_
  refine xm_E_s r_X11_meaning_8 rfl rfl ?_
  refine xm_E_t q1 ?_
  refine xm_E_s r_X11_meaning_9 rfl rfl ?_
  refine xm_E_s r_X11_meaning_10 rfl rfl ?_
  refine xm_E_s r_X11_meaning_11 rfl rfl ?_
  refine xm_E_t q2 ?_
  refine xm_E_s r_X11_meaning_12 rfl rfl ?_
  exact xm_E_iret r_X11_meaning_13 rfl rfl
theorem w_X11_meaning_0_20 {X : xm_X} {P : List xm_M} {d : Nat} {h : xm_H} {l0 : Int32} {l1 : Int32} (q0 : ¬ (l0 = (0 : Int32))) (q1 : l0 = (1 : Int32)) (q2 : ¬ (l1 = (1 : Int32))) (q3 : l1 = (0 : Int32)) : xm_E X P d co_X11_meaning 0 [some (.int l0), some (.int l1)] [] h (some (.int (11 : Int32))) h := by
  refine xm_E_s r_X11_meaning_0 rfl rfl ?_
  refine xm_E_s r_X11_meaning_1 rfl rfl ?_
  refine xm_E_f q0 ?_
  refine xm_E_s r_X11_meaning_6 rfl rfl ?_
  refine xm_E_s r_X11_meaning_7 rfl rfl ?_
  refine xm_E_s r_X11_meaning_8 rfl rfl ?_
  refine xm_E_t q1 ?_
  refine xm_E_s r_X11_meaning_9 rfl rfl ?_
  refine xm_E_s r_X11_meaning_10 rfl rfl ?_
  refine xm_E_s r_X11_meaning_11 rfl rfl ?_
  refine xm_E_f q2 ?_
  refine xm_E_s r_X11_meaning_14 rfl rfl ?_
  refine xm_E_s r_X11_meaning_15 rfl rfl ?_
  refine xm_E_f q0 ?_
  refine xm_E_s r_X11_meaning_21 rfl rfl ?_
  refine xm_E_s r_X11_meaning_22 rfl rfl ?_
  refine xm_E_s r_X11_meaning_23 rfl rfl ?_
  refine xm_E_t q1 ?_
  refine xm_E_s r_X11_meaning_24 rfl rfl ?_
  refine xm_E_s r_X11_meaning_25 rfl rfl ?_
  refine xm_E_t q3 ?_
  refine xm_E_s r_X11_meaning_26 rfl rfl ?_
  exact xm_E_iret r_X11_meaning_27 rfl rfl
theorem w_X11_meaning_0_21 {X : xm_X} {P : List xm_M} {d : Nat} {h : xm_H} {l0 : Int32} {l1 : Int32} (q0 : ¬ (l0 = (0 : Int32))) (q1 : l0 = (1 : Int32)) (q2 : ¬ (l1 = (1 : Int32))) (q3 : ¬ (l1 = (0 : Int32))) (q4 : l0 = (2 : Int32)) (q5 : l1 = (3 : Int32)) : xm_E X P d co_X11_meaning 0 [some (.int l0), some (.int l1)] [] h (some (.int (3 : Int32))) h := by
  refine xm_E_s r_X11_meaning_0 rfl rfl ?_
  refine xm_E_s r_X11_meaning_1 rfl rfl ?_
  refine xm_E_f q0 ?_
  refine xm_E_s r_X11_meaning_6 rfl rfl ?_
  refine xm_E_s r_X11_meaning_7 rfl rfl ?_
  refine xm_E_s r_X11_meaning_8 rfl rfl ?_
  refine xm_E_t q1 ?_
  refine xm_E_s r_X11_meaning_9 rfl rfl ?_
  refine xm_E_s r_X11_meaning_10 rfl rfl ?_
  refine xm_E_s r_X11_meaning_11 rfl rfl ?_
  refine xm_E_f q2 ?_
  refine xm_E_s r_X11_meaning_14 rfl rfl ?_
  refine xm_E_s r_X11_meaning_15 rfl rfl ?_
  refine xm_E_f q0 ?_
  refine xm_E_s r_X11_meaning_21 rfl rfl ?_
  refine xm_E_s r_X11_meaning_22 rfl rfl ?_
  refine xm_E_s r_X11_meaning_23 rfl rfl ?_
  refine xm_E_t q1 ?_
  refine xm_E_s r_X11_meaning_24 rfl rfl ?_
  refine xm_E_s r_X11_meaning_25 rfl rfl ?_
  refine xm_E_f q3 ?_
  refine xm_E_s r_X11_meaning_28 rfl rfl ?_
  refine xm_E_s r_X11_meaning_29 rfl rfl ?_
  refine xm_E_s r_X11_meaning_30 rfl rfl ?_
  refine xm_E_t q4 ?_
  refine xm_E_s r_X11_meaning_31 rfl rfl ?_
  refine xm_E_s r_X11_meaning_32 rfl rfl ?_
  refine xm_E_s r_X11_meaning_33 rfl rfl ?_
  refine xm_E_t q5 ?_
  refine xm_E_s r_X11_meaning_34 rfl rfl ?_
  exact xm_E_iret r_X11_meaning_35 rfl rfl
theorem w_X11_meaning_0_22 {X : xm_X} {P : List xm_M} {d : Nat} {h : xm_H} {l0 : Int32} {l1 : Int32} (q0 : ¬ (l0 = (0 : Int32))) (q1 : l0 = (1 : Int32)) (q2 : ¬ (l1 = (1 : Int32))) (q3 : ¬ (l1 = (0 : Int32))) (q4 : l0 = (2 : Int32)) (q5 : ¬ (l1 = (3 : Int32))) (q6 : l0 = (3 : Int32)) (q7 : l1 = (2 : Int32)) : xm_E X P d co_X11_meaning 0 [some (.int l0), some (.int l1)] [] h (some (.int (4 : Int32))) h := by
  refine xm_E_s r_X11_meaning_0 rfl rfl ?_
  refine xm_E_s r_X11_meaning_1 rfl rfl ?_
  refine xm_E_f q0 ?_
  refine xm_E_s r_X11_meaning_6 rfl rfl ?_
  refine xm_E_s r_X11_meaning_7 rfl rfl ?_
  refine xm_E_s r_X11_meaning_8 rfl rfl ?_
  refine xm_E_t q1 ?_
  refine xm_E_s r_X11_meaning_9 rfl rfl ?_
  refine xm_E_s r_X11_meaning_10 rfl rfl ?_
  refine xm_E_s r_X11_meaning_11 rfl rfl ?_
  refine xm_E_f q2 ?_
  refine xm_E_s r_X11_meaning_14 rfl rfl ?_
  refine xm_E_s r_X11_meaning_15 rfl rfl ?_
  refine xm_E_f q0 ?_
  refine xm_E_s r_X11_meaning_21 rfl rfl ?_
  refine xm_E_s r_X11_meaning_22 rfl rfl ?_
  refine xm_E_s r_X11_meaning_23 rfl rfl ?_
  refine xm_E_t q1 ?_
  refine xm_E_s r_X11_meaning_24 rfl rfl ?_
  refine xm_E_s r_X11_meaning_25 rfl rfl ?_
  refine xm_E_f q3 ?_
  refine xm_E_s r_X11_meaning_28 rfl rfl ?_
  refine xm_E_s r_X11_meaning_29 rfl rfl ?_
  refine xm_E_s r_X11_meaning_30 rfl rfl ?_
  refine xm_E_t q4 ?_
  refine xm_E_s r_X11_meaning_31 rfl rfl ?_
  refine xm_E_s r_X11_meaning_32 rfl rfl ?_
  refine xm_E_s r_X11_meaning_33 rfl rfl ?_
  refine xm_E_f q5 ?_
  refine xm_E_s r_X11_meaning_36 rfl rfl ?_
  refine xm_E_s r_X11_meaning_37 rfl rfl ?_
  refine xm_E_s r_X11_meaning_38 rfl rfl ?_
  refine xm_E_t q6 ?_
  refine xm_E_s r_X11_meaning_39 rfl rfl ?_
  refine xm_E_s r_X11_meaning_40 rfl rfl ?_
  refine xm_E_s r_X11_meaning_41 rfl rfl ?_
  refine xm_E_t q7 ?_
  refine xm_E_s r_X11_meaning_42 rfl rfl ?_
  exact xm_E_iret r_X11_meaning_43 rfl rfl
theorem w_X11_meaning_0_23 {X : xm_X} {P : List xm_M} {d : Nat} {h : xm_H} {l0 : Int32} {l1 : Int32} (q0 : ¬ (l0 = (0 : Int32))) (q1 : l0 = (1 : Int32)) (q2 : ¬ (l1 = (1 : Int32))) (q3 : ¬ (l1 = (0 : Int32))) (q4 : l0 = (2 : Int32)) (q5 : ¬ (l1 = (3 : Int32))) (q6 : l0 = (3 : Int32)) (q7 : ¬ (l1 = (2 : Int32))) : xm_E X P d co_X11_meaning 0 [some (.int l0), some (.int l1)] [] h (some (.int (12 : Int32))) h := by
  refine xm_E_s r_X11_meaning_0 rfl rfl ?_
  refine xm_E_s r_X11_meaning_1 rfl rfl ?_
  refine xm_E_f q0 ?_
  refine xm_E_s r_X11_meaning_6 rfl rfl ?_
  refine xm_E_s r_X11_meaning_7 rfl rfl ?_
  refine xm_E_s r_X11_meaning_8 rfl rfl ?_
  refine xm_E_t q1 ?_
  refine xm_E_s r_X11_meaning_9 rfl rfl ?_
  refine xm_E_s r_X11_meaning_10 rfl rfl ?_
  refine xm_E_s r_X11_meaning_11 rfl rfl ?_
  refine xm_E_f q2 ?_
  refine xm_E_s r_X11_meaning_14 rfl rfl ?_
  refine xm_E_s r_X11_meaning_15 rfl rfl ?_
  refine xm_E_f q0 ?_
  refine xm_E_s r_X11_meaning_21 rfl rfl ?_
  refine xm_E_s r_X11_meaning_22 rfl rfl ?_
  refine xm_E_s r_X11_meaning_23 rfl rfl ?_
  refine xm_E_t q1 ?_
  refine xm_E_s r_X11_meaning_24 rfl rfl ?_
  refine xm_E_s r_X11_meaning_25 rfl rfl ?_
  refine xm_E_f q3 ?_
  refine xm_E_s r_X11_meaning_28 rfl rfl ?_
  refine xm_E_s r_X11_meaning_29 rfl rfl ?_
  refine xm_E_s r_X11_meaning_30 rfl rfl ?_
  refine xm_E_t q4 ?_
  refine xm_E_s r_X11_meaning_31 rfl rfl ?_
  refine xm_E_s r_X11_meaning_32 rfl rfl ?_
  refine xm_E_s r_X11_meaning_33 rfl rfl ?_
  refine xm_E_f q5 ?_
  refine xm_E_s r_X11_meaning_36 rfl rfl ?_
  refine xm_E_s r_X11_meaning_37 rfl rfl ?_
  refine xm_E_s r_X11_meaning_38 rfl rfl ?_
  refine xm_E_t q6 ?_
  refine xm_E_s r_X11_meaning_39 rfl rfl ?_
  refine xm_E_s r_X11_meaning_40 rfl rfl ?_
  refine xm_E_s r_X11_meaning_41 rfl rfl ?_
  refine xm_E_f q7 ?_
  refine xm_E_s r_X11_meaning_44 rfl rfl ?_
  refine xm_E_s r_X11_meaning_45 rfl rfl ?_
  refine xm_E_s r_X11_meaning_46 rfl rfl ?_
  refine xm_E_t q4 ?_
  refine xm_E_s r_X11_meaning_47 rfl rfl ?_
  refine xm_E_s r_X11_meaning_48 rfl rfl ?_
  refine xm_E_s r_X11_meaning_49 rfl rfl ?_
  refine xm_E_f q7 ?_
  refine xm_E_s r_X11_meaning_52 rfl rfl ?_
  exact xm_E_iret r_X11_meaning_53 rfl rfl
theorem w_X11_meaning_0_24 {X : xm_X} {P : List xm_M} {d : Nat} {h : xm_H} {l0 : Int32} {l1 : Int32} (q0 : ¬ (l0 = (0 : Int32))) (q1 : l0 = (1 : Int32)) (q2 : ¬ (l1 = (1 : Int32))) (q3 : ¬ (l1 = (0 : Int32))) (q4 : l0 = (2 : Int32)) (q5 : ¬ (l1 = (3 : Int32))) (q6 : ¬ (l0 = (3 : Int32))) (q7 : l1 = (2 : Int32)) : xm_E X P d co_X11_meaning 0 [some (.int l0), some (.int l1)] [] h (some (.int (5 : Int32))) h := by
  refine xm_E_s r_X11_meaning_0 rfl rfl ?_
  refine xm_E_s r_X11_meaning_1 rfl rfl ?_
  refine xm_E_f q0 ?_
  refine xm_E_s r_X11_meaning_6 rfl rfl ?_
  refine xm_E_s r_X11_meaning_7 rfl rfl ?_
  refine xm_E_s r_X11_meaning_8 rfl rfl ?_
  refine xm_E_t q1 ?_
  refine xm_E_s r_X11_meaning_9 rfl rfl ?_
  refine xm_E_s r_X11_meaning_10 rfl rfl ?_
  refine xm_E_s r_X11_meaning_11 rfl rfl ?_
  refine xm_E_f q2 ?_
  refine xm_E_s r_X11_meaning_14 rfl rfl ?_
  refine xm_E_s r_X11_meaning_15 rfl rfl ?_
  refine xm_E_f q0 ?_
  refine xm_E_s r_X11_meaning_21 rfl rfl ?_
  refine xm_E_s r_X11_meaning_22 rfl rfl ?_
  refine xm_E_s r_X11_meaning_23 rfl rfl ?_
  refine xm_E_t q1 ?_
  refine xm_E_s r_X11_meaning_24 rfl rfl ?_
  refine xm_E_s r_X11_meaning_25 rfl rfl ?_
  refine xm_E_f q3 ?_
  refine xm_E_s r_X11_meaning_28 rfl rfl ?_
  refine xm_E_s r_X11_meaning_29 rfl rfl ?_
  refine xm_E_s r_X11_meaning_30 rfl rfl ?_
  refine xm_E_t q4 ?_
  refine xm_E_s r_X11_meaning_31 rfl rfl ?_
  refine xm_E_s r_X11_meaning_32 rfl rfl ?_
  refine xm_E_s r_X11_meaning_33 rfl rfl ?_
  refine xm_E_f q5 ?_
  refine xm_E_s r_X11_meaning_36 rfl rfl ?_
  refine xm_E_s r_X11_meaning_37 rfl rfl ?_
  refine xm_E_s r_X11_meaning_38 rfl rfl ?_
  refine xm_E_f q6 ?_
  refine xm_E_s r_X11_meaning_44 rfl rfl ?_
  refine xm_E_s r_X11_meaning_45 rfl rfl ?_
  refine xm_E_s r_X11_meaning_46 rfl rfl ?_
  refine xm_E_t q4 ?_
  refine xm_E_s r_X11_meaning_47 rfl rfl ?_
  refine xm_E_s r_X11_meaning_48 rfl rfl ?_
  refine xm_E_s r_X11_meaning_49 rfl rfl ?_
  refine xm_E_t q7 ?_
  refine xm_E_s r_X11_meaning_50 rfl rfl ?_
  refine xm_E_s r_X11_meaning_51 rfl rfl ?_
  exact xm_E_iret r_X11_meaning_53 rfl rfl
theorem w_X11_meaning_0_25 {X : xm_X} {P : List xm_M} {d : Nat} {h : xm_H} {l0 : Int32} {l1 : Int32} (q0 : ¬ (l0 = (0 : Int32))) (q1 : l0 = (1 : Int32)) (q2 : ¬ (l1 = (1 : Int32))) (q3 : ¬ (l1 = (0 : Int32))) (q4 : l0 = (2 : Int32)) (q5 : ¬ (l1 = (3 : Int32))) (q6 : ¬ (l0 = (3 : Int32))) (q7 : ¬ (l1 = (2 : Int32))) : xm_E X P d co_X11_meaning 0 [some (.int l0), some (.int l1)] [] h (some (.int (12 : Int32))) h := by
  refine xm_E_s r_X11_meaning_0 rfl rfl ?_
  refine xm_E_s r_X11_meaning_1 rfl rfl ?_
  refine xm_E_f q0 ?_
  refine xm_E_s r_X11_meaning_6 rfl rfl ?_
  refine xm_E_s r_X11_meaning_7 rfl rfl ?_
  refine xm_E_s r_X11_meaning_8 rfl rfl ?_
  refine xm_E_t q1 ?_
  refine xm_E_s r_X11_meaning_9 rfl rfl ?_
  refine xm_E_s r_X11_meaning_10 rfl rfl ?_
  refine xm_E_s r_X11_meaning_11 rfl rfl ?_
  refine xm_E_f q2 ?_
  refine xm_E_s r_X11_meaning_14 rfl rfl ?_
  refine xm_E_s r_X11_meaning_15 rfl rfl ?_
  refine xm_E_f q0 ?_
  refine xm_E_s r_X11_meaning_21 rfl rfl ?_
  refine xm_E_s r_X11_meaning_22 rfl rfl ?_
  refine xm_E_s r_X11_meaning_23 rfl rfl ?_
  refine xm_E_t q1 ?_
  refine xm_E_s r_X11_meaning_24 rfl rfl ?_
  refine xm_E_s r_X11_meaning_25 rfl rfl ?_
  refine xm_E_f q3 ?_
  refine xm_E_s r_X11_meaning_28 rfl rfl ?_
  refine xm_E_s r_X11_meaning_29 rfl rfl ?_
  refine xm_E_s r_X11_meaning_30 rfl rfl ?_
  refine xm_E_t q4 ?_
  refine xm_E_s r_X11_meaning_31 rfl rfl ?_
  refine xm_E_s r_X11_meaning_32 rfl rfl ?_
  refine xm_E_s r_X11_meaning_33 rfl rfl ?_
  refine xm_E_f q5 ?_
  refine xm_E_s r_X11_meaning_36 rfl rfl ?_
  refine xm_E_s r_X11_meaning_37 rfl rfl ?_
  refine xm_E_s r_X11_meaning_38 rfl rfl ?_
  refine xm_E_f q6 ?_
  refine xm_E_s r_X11_meaning_44 rfl rfl ?_
  refine xm_E_s r_X11_meaning_45 rfl rfl ?_
  refine xm_E_s r_X11_meaning_46 rfl rfl ?_
  refine xm_E_t q4 ?_
  refine xm_E_s r_X11_meaning_47 rfl rfl ?_
  refine xm_E_s r_X11_meaning_48 rfl rfl ?_
  refine xm_E_s r_X11_meaning_49 rfl rfl ?_
  refine xm_E_f q7 ?_
  refine xm_E_s r_X11_meaning_52 rfl rfl ?_
  exact xm_E_iret r_X11_meaning_53 rfl rfl
theorem w_X11_meaning_0_26 {X : xm_X} {P : List xm_M} {d : Nat} {h : xm_H} {l0 : Int32} {l1 : Int32} (q0 : ¬ (l0 = (0 : Int32))) (q1 : l0 = (1 : Int32)) (q2 : ¬ (l1 = (1 : Int32))) (q3 : ¬ (l1 = (0 : Int32))) (q4 : ¬ (l0 = (2 : Int32))) (q5 : l0 = (3 : Int32)) (q6 : l1 = (2 : Int32)) : xm_E X P d co_X11_meaning 0 [some (.int l0), some (.int l1)] [] h (some (.int (4 : Int32))) h := by
  refine xm_E_s r_X11_meaning_0 rfl rfl ?_
  refine xm_E_s r_X11_meaning_1 rfl rfl ?_
  refine xm_E_f q0 ?_
  refine xm_E_s r_X11_meaning_6 rfl rfl ?_
  refine xm_E_s r_X11_meaning_7 rfl rfl ?_
  refine xm_E_s r_X11_meaning_8 rfl rfl ?_
  refine xm_E_t q1 ?_
  refine xm_E_s r_X11_meaning_9 rfl rfl ?_
  refine xm_E_s r_X11_meaning_10 rfl rfl ?_
  refine xm_E_s r_X11_meaning_11 rfl rfl ?_
  refine xm_E_f q2 ?_
  refine xm_E_s r_X11_meaning_14 rfl rfl ?_
  refine xm_E_s r_X11_meaning_15 rfl rfl ?_
  refine xm_E_f q0 ?_
  refine xm_E_s r_X11_meaning_21 rfl rfl ?_
  refine xm_E_s r_X11_meaning_22 rfl rfl ?_
  refine xm_E_s r_X11_meaning_23 rfl rfl ?_
  refine xm_E_t q1 ?_
  refine xm_E_s r_X11_meaning_24 rfl rfl ?_
  refine xm_E_s r_X11_meaning_25 rfl rfl ?_
  refine xm_E_f q3 ?_
  refine xm_E_s r_X11_meaning_28 rfl rfl ?_
  refine xm_E_s r_X11_meaning_29 rfl rfl ?_
  refine xm_E_s r_X11_meaning_30 rfl rfl ?_
  refine xm_E_f q4 ?_
  refine xm_E_s r_X11_meaning_36 rfl rfl ?_
  refine xm_E_s r_X11_meaning_37 rfl rfl ?_
  refine xm_E_s r_X11_meaning_38 rfl rfl ?_
  refine xm_E_t q5 ?_
  refine xm_E_s r_X11_meaning_39 rfl rfl ?_
  refine xm_E_s r_X11_meaning_40 rfl rfl ?_
  refine xm_E_s r_X11_meaning_41 rfl rfl ?_
  refine xm_E_t q6 ?_
  refine xm_E_s r_X11_meaning_42 rfl rfl ?_
  exact xm_E_iret r_X11_meaning_43 rfl rfl
theorem w_X11_meaning_0_27 {X : xm_X} {P : List xm_M} {d : Nat} {h : xm_H} {l0 : Int32} {l1 : Int32} (q0 : ¬ (l0 = (0 : Int32))) (q1 : l0 = (1 : Int32)) (q2 : ¬ (l1 = (1 : Int32))) (q3 : ¬ (l1 = (0 : Int32))) (q4 : ¬ (l0 = (2 : Int32))) (q5 : l0 = (3 : Int32)) (q6 : ¬ (l1 = (2 : Int32))) : xm_E X P d co_X11_meaning 0 [some (.int l0), some (.int l1)] [] h (some (.int (12 : Int32))) h := by
  refine xm_E_s r_X11_meaning_0 rfl rfl ?_
  refine xm_E_s r_X11_meaning_1 rfl rfl ?_
  refine xm_E_f q0 ?_
  refine xm_E_s r_X11_meaning_6 rfl rfl ?_
  refine xm_E_s r_X11_meaning_7 rfl rfl ?_
  refine xm_E_s r_X11_meaning_8 rfl rfl ?_
  refine xm_E_t q1 ?_
  refine xm_E_s r_X11_meaning_9 rfl rfl ?_
  refine xm_E_s r_X11_meaning_10 rfl rfl ?_
  refine xm_E_s r_X11_meaning_11 rfl rfl ?_
  refine xm_E_f q2 ?_
  refine xm_E_s r_X11_meaning_14 rfl rfl ?_
  refine xm_E_s r_X11_meaning_15 rfl rfl ?_
  refine xm_E_f q0 ?_
  refine xm_E_s r_X11_meaning_21 rfl rfl ?_
  refine xm_E_s r_X11_meaning_22 rfl rfl ?_
  refine xm_E_s r_X11_meaning_23 rfl rfl ?_
  refine xm_E_t q1 ?_
  refine xm_E_s r_X11_meaning_24 rfl rfl ?_
  refine xm_E_s r_X11_meaning_25 rfl rfl ?_
  refine xm_E_f q3 ?_
  refine xm_E_s r_X11_meaning_28 rfl rfl ?_
  refine xm_E_s r_X11_meaning_29 rfl rfl ?_
  refine xm_E_s r_X11_meaning_30 rfl rfl ?_
  refine xm_E_f q4 ?_
  refine xm_E_s r_X11_meaning_36 rfl rfl ?_
  refine xm_E_s r_X11_meaning_37 rfl rfl ?_
  refine xm_E_s r_X11_meaning_38 rfl rfl ?_
  refine xm_E_t q5 ?_
  refine xm_E_s r_X11_meaning_39 rfl rfl ?_
  refine xm_E_s r_X11_meaning_40 rfl rfl ?_
  refine xm_E_s r_X11_meaning_41 rfl rfl ?_
  refine xm_E_f q6 ?_
  refine xm_E_s r_X11_meaning_44 rfl rfl ?_
  refine xm_E_s r_X11_meaning_45 rfl rfl ?_
  refine xm_E_s r_X11_meaning_46 rfl rfl ?_
  refine xm_E_f q4 ?_
  refine xm_E_s r_X11_meaning_52 rfl rfl ?_
  exact xm_E_iret r_X11_meaning_53 rfl rfl
theorem w_X11_meaning_0_28 {X : xm_X} {P : List xm_M} {d : Nat} {h : xm_H} {l0 : Int32} {l1 : Int32} (q0 : ¬ (l0 = (0 : Int32))) (q1 : l0 = (1 : Int32)) (q2 : ¬ (l1 = (1 : Int32))) (q3 : ¬ (l1 = (0 : Int32))) (q4 : ¬ (l0 = (2 : Int32))) (q5 : ¬ (l0 = (3 : Int32))) : xm_E X P d co_X11_meaning 0 [some (.int l0), some (.int l1)] [] h (some (.int (12 : Int32))) h := by
  refine xm_E_s r_X11_meaning_0 rfl rfl ?_
  refine xm_E_s r_X11_meaning_1 rfl rfl ?_
  refine xm_E_f q0 ?_
  refine xm_E_s r_X11_meaning_6 rfl rfl ?_
  refine xm_E_s r_X11_meaning_7 rfl rfl ?_
  refine xm_E_s r_X11_meaning_8 rfl rfl ?_
  refine xm_E_t q1 ?_
  refine xm_E_s r_X11_meaning_9 rfl rfl ?_
  refine xm_E_s r_X11_meaning_10 rfl rfl ?_
  refine xm_E_s r_X11_meaning_11 rfl rfl ?_
  refine xm_E_f q2 ?_
  refine xm_E_s r_X11_meaning_14 rfl rfl ?_
  refine xm_E_s r_X11_meaning_15 rfl rfl ?_
  refine xm_E_f q0 ?_
  refine xm_E_s r_X11_meaning_21 rfl rfl ?_
  refine xm_E_s r_X11_meaning_22 rfl rfl ?_
  refine xm_E_s r_X11_meaning_23 rfl rfl ?_
  refine xm_E_t q1 ?_
  refine xm_E_s r_X11_meaning_24 rfl rfl ?_
  refine xm_E_s r_X11_meaning_25 rfl rfl ?_
  refine xm_E_f q3 ?_
  refine xm_E_s r_X11_meaning_28 rfl rfl ?_
  refine xm_E_s r_X11_meaning_29 rfl rfl ?_
  refine xm_E_s r_X11_meaning_30 rfl rfl ?_
  refine xm_E_f q4 ?_
  refine xm_E_s r_X11_meaning_36 rfl rfl ?_
  refine xm_E_s r_X11_meaning_37 rfl rfl ?_
  refine xm_E_s r_X11_meaning_38 rfl rfl ?_
  refine xm_E_f q5 ?_
  refine xm_E_s r_X11_meaning_44 rfl rfl ?_
  refine xm_E_s r_X11_meaning_45 rfl rfl ?_
  refine xm_E_s r_X11_meaning_46 rfl rfl ?_
  refine xm_E_f q4 ?_
  refine xm_E_s r_X11_meaning_52 rfl rfl ?_
  exact xm_E_iret r_X11_meaning_53 rfl rfl
theorem w_X11_meaning_0_29 {X : xm_X} {P : List xm_M} {d : Nat} {h : xm_H} {l0 : Int32} {l1 : Int32} (q0 : ¬ (l0 = (0 : Int32))) (q1 : ¬ (l0 = (1 : Int32))) (q2 : l0 = (2 : Int32)) (q3 : l1 = (3 : Int32)) : xm_E X P d co_X11_meaning 0 [some (.int l0), some (.int l1)] [] h (some (.int (3 : Int32))) h := by
  refine xm_E_s r_X11_meaning_0 rfl rfl ?_
  refine xm_E_s r_X11_meaning_1 rfl rfl ?_
  refine xm_E_f q0 ?_
  refine xm_E_s r_X11_meaning_6 rfl rfl ?_
  refine xm_E_s r_X11_meaning_7 rfl rfl ?_
  refine xm_E_s r_X11_meaning_8 rfl rfl ?_
  refine xm_E_f q1 ?_
  refine xm_E_s r_X11_meaning_14 rfl rfl ?_
  refine xm_E_s r_X11_meaning_15 rfl rfl ?_
  refine xm_E_f q0 ?_
  refine xm_E_s r_X11_meaning_21 rfl rfl ?_
  refine xm_E_s r_X11_meaning_22 rfl rfl ?_
  refine xm_E_s r_X11_meaning_23 rfl rfl ?_
  refine xm_E_f q1 ?_
  refine xm_E_s r_X11_meaning_28 rfl rfl ?_
  refine xm_E_s r_X11_meaning_29 rfl rfl ?_
  refine xm_E_s r_X11_meaning_30 rfl rfl ?_
  refine xm_E_t q2 ?_
  refine xm_E_s r_X11_meaning_31 rfl rfl ?_
  refine xm_E_s r_X11_meaning_32 rfl rfl ?_
  refine xm_E_s r_X11_meaning_33 rfl rfl ?_
  refine xm_E_t q3 ?_
  refine xm_E_s r_X11_meaning_34 rfl rfl ?_
  exact xm_E_iret r_X11_meaning_35 rfl rfl
theorem w_X11_meaning_0_30 {X : xm_X} {P : List xm_M} {d : Nat} {h : xm_H} {l0 : Int32} {l1 : Int32} (q0 : ¬ (l0 = (0 : Int32))) (q1 : ¬ (l0 = (1 : Int32))) (q2 : l0 = (2 : Int32)) (q3 : ¬ (l1 = (3 : Int32))) (q4 : l0 = (3 : Int32)) (q5 : l1 = (2 : Int32)) : xm_E X P d co_X11_meaning 0 [some (.int l0), some (.int l1)] [] h (some (.int (4 : Int32))) h := by
  refine xm_E_s r_X11_meaning_0 rfl rfl ?_
  refine xm_E_s r_X11_meaning_1 rfl rfl ?_
  refine xm_E_f q0 ?_
  refine xm_E_s r_X11_meaning_6 rfl rfl ?_
  refine xm_E_s r_X11_meaning_7 rfl rfl ?_
  refine xm_E_s r_X11_meaning_8 rfl rfl ?_
  refine xm_E_f q1 ?_
  refine xm_E_s r_X11_meaning_14 rfl rfl ?_
  refine xm_E_s r_X11_meaning_15 rfl rfl ?_
  refine xm_E_f q0 ?_
  refine xm_E_s r_X11_meaning_21 rfl rfl ?_
  refine xm_E_s r_X11_meaning_22 rfl rfl ?_
  refine xm_E_s r_X11_meaning_23 rfl rfl ?_
  refine xm_E_f q1 ?_
  refine xm_E_s r_X11_meaning_28 rfl rfl ?_
  refine xm_E_s r_X11_meaning_29 rfl rfl ?_
  refine xm_E_s r_X11_meaning_30 rfl rfl ?_
  refine xm_E_t q2 ?_
  refine xm_E_s r_X11_meaning_31 rfl rfl ?_
  refine xm_E_s r_X11_meaning_32 rfl rfl ?_
  refine xm_E_s r_X11_meaning_33 rfl rfl ?_
  refine xm_E_f q3 ?_
  refine xm_E_s r_X11_meaning_36 rfl rfl ?_
  refine xm_E_s r_X11_meaning_37 rfl rfl ?_
  refine xm_E_s r_X11_meaning_38 rfl rfl ?_
  refine xm_E_t q4 ?_
  refine xm_E_s r_X11_meaning_39 rfl rfl ?_
  refine xm_E_s r_X11_meaning_40 rfl rfl ?_
  refine xm_E_s r_X11_meaning_41 rfl rfl ?_
  refine xm_E_t q5 ?_
  refine xm_E_s r_X11_meaning_42 rfl rfl ?_
  exact xm_E_iret r_X11_meaning_43 rfl rfl
theorem w_X11_meaning_0_31 {X : xm_X} {P : List xm_M} {d : Nat} {h : xm_H} {l0 : Int32} {l1 : Int32} (q0 : ¬ (l0 = (0 : Int32))) (q1 : ¬ (l0 = (1 : Int32))) (q2 : l0 = (2 : Int32)) (q3 : ¬ (l1 = (3 : Int32))) (q4 : l0 = (3 : Int32)) (q5 : ¬ (l1 = (2 : Int32))) : xm_E X P d co_X11_meaning 0 [some (.int l0), some (.int l1)] [] h (some (.int (12 : Int32))) h := by
  refine xm_E_s r_X11_meaning_0 rfl rfl ?_
  refine xm_E_s r_X11_meaning_1 rfl rfl ?_
  refine xm_E_f q0 ?_
  refine xm_E_s r_X11_meaning_6 rfl rfl ?_
  refine xm_E_s r_X11_meaning_7 rfl rfl ?_
  refine xm_E_s r_X11_meaning_8 rfl rfl ?_
  refine xm_E_f q1 ?_
  refine xm_E_s r_X11_meaning_14 rfl rfl ?_
  refine xm_E_s r_X11_meaning_15 rfl rfl ?_
  refine xm_E_f q0 ?_
  refine xm_E_s r_X11_meaning_21 rfl rfl ?_
  refine xm_E_s r_X11_meaning_22 rfl rfl ?_
  refine xm_E_s r_X11_meaning_23 rfl rfl ?_
  refine xm_E_f q1 ?_
  refine xm_E_s r_X11_meaning_28 rfl rfl ?_
  refine xm_E_s r_X11_meaning_29 rfl rfl ?_
  refine xm_E_s r_X11_meaning_30 rfl rfl ?_
  refine xm_E_t q2 ?_
  refine xm_E_s r_X11_meaning_31 rfl rfl ?_
  refine xm_E_s r_X11_meaning_32 rfl rfl ?_
  refine xm_E_s r_X11_meaning_33 rfl rfl ?_
  refine xm_E_f q3 ?_
  refine xm_E_s r_X11_meaning_36 rfl rfl ?_
  refine xm_E_s r_X11_meaning_37 rfl rfl ?_
  refine xm_E_s r_X11_meaning_38 rfl rfl ?_
  refine xm_E_t q4 ?_
  refine xm_E_s r_X11_meaning_39 rfl rfl ?_
  refine xm_E_s r_X11_meaning_40 rfl rfl ?_
  refine xm_E_s r_X11_meaning_41 rfl rfl ?_
  refine xm_E_f q5 ?_
  refine xm_E_s r_X11_meaning_44 rfl rfl ?_
  refine xm_E_s r_X11_meaning_45 rfl rfl ?_
  refine xm_E_s r_X11_meaning_46 rfl rfl ?_
  refine xm_E_t q2 ?_
  refine xm_E_s r_X11_meaning_47 rfl rfl ?_
  refine xm_E_s r_X11_meaning_48 rfl rfl ?_
  refine xm_E_s r_X11_meaning_49 rfl rfl ?_
  refine xm_E_f q5 ?_
  refine xm_E_s r_X11_meaning_52 rfl rfl ?_
  exact xm_E_iret r_X11_meaning_53 rfl rfl
theorem w_X11_meaning_0_32 {X : xm_X} {P : List xm_M} {d : Nat} {h : xm_H} {l0 : Int32} {l1 : Int32} (q0 : ¬ (l0 = (0 : Int32))) (q1 : ¬ (l0 = (1 : Int32))) (q2 : l0 = (2 : Int32)) (q3 : ¬ (l1 = (3 : Int32))) (q4 : ¬ (l0 = (3 : Int32))) (q5 : l1 = (2 : Int32)) : xm_E X P d co_X11_meaning 0 [some (.int l0), some (.int l1)] [] h (some (.int (5 : Int32))) h := by
  refine xm_E_s r_X11_meaning_0 rfl rfl ?_
  refine xm_E_s r_X11_meaning_1 rfl rfl ?_
  refine xm_E_f q0 ?_
  refine xm_E_s r_X11_meaning_6 rfl rfl ?_
  refine xm_E_s r_X11_meaning_7 rfl rfl ?_
  refine xm_E_s r_X11_meaning_8 rfl rfl ?_
  refine xm_E_f q1 ?_
  refine xm_E_s r_X11_meaning_14 rfl rfl ?_
  refine xm_E_s r_X11_meaning_15 rfl rfl ?_
  refine xm_E_f q0 ?_
  refine xm_E_s r_X11_meaning_21 rfl rfl ?_
  refine xm_E_s r_X11_meaning_22 rfl rfl ?_
  refine xm_E_s r_X11_meaning_23 rfl rfl ?_
  refine xm_E_f q1 ?_
  refine xm_E_s r_X11_meaning_28 rfl rfl ?_
  refine xm_E_s r_X11_meaning_29 rfl rfl ?_
  refine xm_E_s r_X11_meaning_30 rfl rfl ?_
  refine xm_E_t q2 ?_
  refine xm_E_s r_X11_meaning_31 rfl rfl ?_
  refine xm_E_s r_X11_meaning_32 rfl rfl ?_
  refine xm_E_s r_X11_meaning_33 rfl rfl ?_
  refine xm_E_f q3 ?_
  refine xm_E_s r_X11_meaning_36 rfl rfl ?_
  refine xm_E_s r_X11_meaning_37 rfl rfl ?_
  refine xm_E_s r_X11_meaning_38 rfl rfl ?_
  refine xm_E_f q4 ?_
  refine xm_E_s r_X11_meaning_44 rfl rfl ?_
  refine xm_E_s r_X11_meaning_45 rfl rfl ?_
  refine xm_E_s r_X11_meaning_46 rfl rfl ?_
  refine xm_E_t q2 ?_
  refine xm_E_s r_X11_meaning_47 rfl rfl ?_
  refine xm_E_s r_X11_meaning_48 rfl rfl ?_
  refine xm_E_s r_X11_meaning_49 rfl rfl ?_
  refine xm_E_t q5 ?_
  refine xm_E_s r_X11_meaning_50 rfl rfl ?_
  refine xm_E_s r_X11_meaning_51 rfl rfl ?_
  exact xm_E_iret r_X11_meaning_53 rfl rfl
theorem w_X11_meaning_0_33 {X : xm_X} {P : List xm_M} {d : Nat} {h : xm_H} {l0 : Int32} {l1 : Int32} (q0 : ¬ (l0 = (0 : Int32))) (q1 : ¬ (l0 = (1 : Int32))) (q2 : l0 = (2 : Int32)) (q3 : ¬ (l1 = (3 : Int32))) (q4 : ¬ (l0 = (3 : Int32))) (q5 : ¬ (l1 = (2 : Int32))) : xm_E X P d co_X11_meaning 0 [some (.int l0), some (.int l1)] [] h (some (.int (12 : Int32))) h := by
  refine xm_E_s r_X11_meaning_0 rfl rfl ?_
  refine xm_E_s r_X11_meaning_1 rfl rfl ?_
  refine xm_E_f q0 ?_
  refine xm_E_s r_X11_meaning_6 rfl rfl ?_
  refine xm_E_s r_X11_meaning_7 rfl rfl ?_
  refine xm_E_s r_X11_meaning_8 rfl rfl ?_
  refine xm_E_f q1 ?_
  refine xm_E_s r_X11_meaning_14 rfl rfl ?_
  refine xm_E_s r_X11_meaning_15 rfl rfl ?_
  refine xm_E_f q0 ?_
  refine xm_E_s r_X11_meaning_21 rfl rfl ?_
  refine xm_E_s r_X11_meaning_22 rfl rfl ?_
  refine xm_E_s r_X11_meaning_23 rfl rfl ?_
  refine xm_E_f q1 ?_
  refine xm_E_s r_X11_meaning_28 rfl rfl ?_
  refine xm_E_s r_X11_meaning_29 rfl rfl ?_
  refine xm_E_s r_X11_meaning_30 rfl rfl ?_
  refine xm_E_t q2 ?_
  refine xm_E_s r_X11_meaning_31 rfl rfl ?_
  refine xm_E_s r_X11_meaning_32 rfl rfl ?_
  refine xm_E_s r_X11_meaning_33 rfl rfl ?_
  refine xm_E_f q3 ?_
  refine xm_E_s r_X11_meaning_36 rfl rfl ?_
  refine xm_E_s r_X11_meaning_37 rfl rfl ?_
  refine xm_E_s r_X11_meaning_38 rfl rfl ?_
  refine xm_E_f q4 ?_
  refine xm_E_s r_X11_meaning_44 rfl rfl ?_
  refine xm_E_s r_X11_meaning_45 rfl rfl ?_
  refine xm_E_s r_X11_meaning_46 rfl rfl ?_
  refine xm_E_t q2 ?_
  refine xm_E_s r_X11_meaning_47 rfl rfl ?_
  refine xm_E_s r_X11_meaning_48 rfl rfl ?_
  refine xm_E_s r_X11_meaning_49 rfl rfl ?_
  refine xm_E_f q5 ?_
  refine xm_E_s r_X11_meaning_52 rfl rfl ?_
  exact xm_E_iret r_X11_meaning_53 rfl rfl
theorem w_X11_meaning_0_34 {X : xm_X} {P : List xm_M} {d : Nat} {h : xm_H} {l0 : Int32} {l1 : Int32} (q0 : ¬ (l0 = (0 : Int32))) (q1 : ¬ (l0 = (1 : Int32))) (q2 : ¬ (l0 = (2 : Int32))) (q3 : l0 = (3 : Int32)) (q4 : l1 = (2 : Int32)) : xm_E X P d co_X11_meaning 0 [some (.int l0), some (.int l1)] [] h (some (.int (4 : Int32))) h := by
  refine xm_E_s r_X11_meaning_0 rfl rfl ?_
  refine xm_E_s r_X11_meaning_1 rfl rfl ?_
  refine xm_E_f q0 ?_
  refine xm_E_s r_X11_meaning_6 rfl rfl ?_
  refine xm_E_s r_X11_meaning_7 rfl rfl ?_
  refine xm_E_s r_X11_meaning_8 rfl rfl ?_
  refine xm_E_f q1 ?_
  refine xm_E_s r_X11_meaning_14 rfl rfl ?_
  refine xm_E_s r_X11_meaning_15 rfl rfl ?_
  refine xm_E_f q0 ?_
  refine xm_E_s r_X11_meaning_21 rfl rfl ?_
  refine xm_E_s r_X11_meaning_22 rfl rfl ?_
  refine xm_E_s r_X11_meaning_23 rfl rfl ?_
  refine xm_E_f q1 ?_
  refine xm_E_s r_X11_meaning_28 rfl rfl ?_
  refine xm_E_s r_X11_meaning_29 rfl rfl ?_
  refine xm_E_s r_X11_meaning_30 rfl rfl ?_
  refine xm_E_f q2 ?_
  refine xm_E_s r_X11_meaning_36 rfl rfl ?_
  refine xm_E_s r_X11_meaning_37 rfl rfl ?_
  refine xm_E_s r_X11_meaning_38 rfl rfl ?_
  refine xm_E_t q3 ?_
  refine xm_E_s r_X11_meaning_39 rfl rfl ?_
  refine xm_E_s r_X11_meaning_40 rfl rfl ?_
  refine xm_E_s r_X11_meaning_41 rfl rfl ?_
  refine xm_E_t q4 ?_
  refine xm_E_s r_X11_meaning_42 rfl rfl ?_
  exact xm_E_iret r_X11_meaning_43 rfl rfl
theorem w_X11_meaning_0_35 {X : xm_X} {P : List xm_M} {d : Nat} {h : xm_H} {l0 : Int32} {l1 : Int32} (q0 : ¬ (l0 = (0 : Int32))) (q1 : ¬ (l0 = (1 : Int32))) (q2 : ¬ (l0 = (2 : Int32))) (q3 : l0 = (3 : Int32)) (q4 : ¬ (l1 = (2 : Int32))) : xm_E X P d co_X11_meaning 0 [some (.int l0), some (.int l1)] [] h (some (.int (12 : Int32))) h := by
  refine xm_E_s r_X11_meaning_0 rfl rfl ?_
  refine xm_E_s r_X11_meaning_1 rfl rfl ?_
  refine xm_E_f q0 ?_
  refine xm_E_s r_X11_meaning_6 rfl rfl ?_
  refine xm_E_s r_X11_meaning_7 rfl rfl ?_
  refine xm_E_s r_X11_meaning_8 rfl rfl ?_
  refine xm_E_f q1 ?_
  refine xm_E_s r_X11_meaning_14 rfl rfl ?_
  refine xm_E_s r_X11_meaning_15 rfl rfl ?_
  refine xm_E_f q0 ?_
  refine xm_E_s r_X11_meaning_21 rfl rfl ?_
  refine xm_E_s r_X11_meaning_22 rfl rfl ?_
  refine xm_E_s r_X11_meaning_23 rfl rfl ?_
  refine xm_E_f q1 ?_
  refine xm_E_s r_X11_meaning_28 rfl rfl ?_
  refine xm_E_s r_X11_meaning_29 rfl rfl ?_
  refine xm_E_s r_X11_meaning_30 rfl rfl ?_
  refine xm_E_f q2 ?_
  refine xm_E_s r_X11_meaning_36 rfl rfl ?_
  refine xm_E_s r_X11_meaning_37 rfl rfl ?_
  refine xm_E_s r_X11_meaning_38 rfl rfl ?_
  refine xm_E_t q3 ?_
  refine xm_E_s r_X11_meaning_39 rfl rfl ?_
  refine xm_E_s r_X11_meaning_40 rfl rfl ?_
  refine xm_E_s r_X11_meaning_41 rfl rfl ?_
  refine xm_E_f q4 ?_
  refine xm_E_s r_X11_meaning_44 rfl rfl ?_
  refine xm_E_s r_X11_meaning_45 rfl rfl ?_
  refine xm_E_s r_X11_meaning_46 rfl rfl ?_
  refine xm_E_f q2 ?_
  refine xm_E_s r_X11_meaning_52 rfl rfl ?_
  exact xm_E_iret r_X11_meaning_53 rfl rfl
theorem w_X11_meaning_0_36 {X : xm_X} {P : List xm_M} {d : Nat} {h : xm_H} {l0 : Int32} {l1 : Int32} (q0 : ¬ (l0 = (0 : Int32))) (q1 : ¬ (l0 = (1 : Int32))) (q2 : ¬ (l0 = (2 : Int32))) (q3 : ¬ (l0 = (3 : Int32))) : xm_E X P d co_X11_meaning 0 [some (.int l0), some (.int l1)] [] h (some (.int (12 : Int32))) h := by
  refine xm_E_s r_X11_meaning_0 rfl rfl ?_
  refine xm_E_s r_X11_meaning_1 rfl rfl ?_
  refine xm_E_f q0 ?_
  refine xm_E_s r_X11_meaning_6 rfl rfl ?_
  refine xm_E_s r_X11_meaning_7 rfl rfl ?_
  refine xm_E_s r_X11_meaning_8 rfl rfl ?_
  refine xm_E_f q1 ?_
  refine xm_E_s r_X11_meaning_14 rfl rfl ?_
  refine xm_E_s r_X11_meaning_15 rfl rfl ?_
  refine xm_E_f q0 ?_
  refine xm_E_s r_X11_meaning_21 rfl rfl ?_
  refine xm_E_s r_X11_meaning_22 rfl rfl ?_
  refine xm_E_s r_X11_meaning_23 rfl rfl ?_
  refine xm_E_f q1 ?_
  refine xm_E_s r_X11_meaning_28 rfl rfl ?_
  refine xm_E_s r_X11_meaning_29 rfl rfl ?_
  refine xm_E_s r_X11_meaning_30 rfl rfl ?_
  refine xm_E_f q2 ?_
  refine xm_E_s r_X11_meaning_36 rfl rfl ?_
  refine xm_E_s r_X11_meaning_37 rfl rfl ?_
  refine xm_E_s r_X11_meaning_38 rfl rfl ?_
  refine xm_E_f q3 ?_
  refine xm_E_s r_X11_meaning_44 rfl rfl ?_
  refine xm_E_s r_X11_meaning_45 rfl rfl ?_
  refine xm_E_s r_X11_meaning_46 rfl rfl ?_
  refine xm_E_f q2 ?_
  refine xm_E_s r_X11_meaning_52 rfl rfl ?_
  exact xm_E_iret r_X11_meaning_53 rfl rfl
def F_X11_meaning (l0 : Int32) (l1 : Int32) : Int32 := if l0 = (0 : Int32) then (if l1 = (0 : Int32) then (0 : Int32) else (if l1 = (1 : Int32) then (10 : Int32) else (12 : Int32))) else (if l0 = (1 : Int32) then (if l1 = (1 : Int32) then (1 : Int32) else (if l1 = (0 : Int32) then (11 : Int32) else (12 : Int32))) else (if l0 = (2 : Int32) then (if l1 = (3 : Int32) then (3 : Int32) else (if l1 = (2 : Int32) then (5 : Int32) else (12 : Int32))) else (if l0 = (3 : Int32) then (if l1 = (2 : Int32) then (4 : Int32) else (12 : Int32)) else (12 : Int32))))
theorem f_X11_meaning {L : Nat} {xs : Nat → Int32} {d : Nat} {h : xm_H} {l0 : Int32} {l1 : Int32} : xm_V (xm_X0 L xs) xm_P (d + 1) 247 [.int l0, .int l1] h (some (.int (F_X11_meaning l0 l1))) h := by
  unfold F_X11_meaning
  by_cases c0 : l0 = (0 : Int32)
  · rw [if_pos c0]
    by_cases c1 : l1 = (0 : Int32)
    · rw [if_pos c1]
      exact v_X11_meaning (w_X11_meaning_0_0 c0 c1)
    · rw [if_neg c1]
      by_cases c2 : l1 = (1 : Int32)
      · rw [if_pos c2]
        exact v_X11_meaning (w_X11_meaning_0_10 c0 c1 (by rw [c0]; decide) c2)
      · rw [if_neg c2]
        exact v_X11_meaning (w_X11_meaning_0_18 c0 c1 (by rw [c0]; decide) c2 (by rw [c0]; decide) (by rw [c0]; decide))
  · rw [if_neg c0]
    by_cases c3 : l0 = (1 : Int32)
    · rw [if_pos c3]
      by_cases c4 : l1 = (1 : Int32)
      · rw [if_pos c4]
        exact v_X11_meaning (w_X11_meaning_0_19 c0 c3 c4)
      · rw [if_neg c4]
        by_cases c5 : l1 = (0 : Int32)
        · rw [if_pos c5]
          exact v_X11_meaning (w_X11_meaning_0_20 c0 c3 c4 c5)
        · rw [if_neg c5]
          exact v_X11_meaning (w_X11_meaning_0_28 c0 c3 c4 c5 (by rw [c3]; decide) (by rw [c3]; decide))
    · rw [if_neg c3]
      by_cases c6 : l0 = (2 : Int32)
      · rw [if_pos c6]
        by_cases c7 : l1 = (3 : Int32)
        · rw [if_pos c7]
          exact v_X11_meaning (w_X11_meaning_0_29 c0 c3 c6 c7)
        · rw [if_neg c7]
          by_cases c8 : l1 = (2 : Int32)
          · rw [if_pos c8]
            exact v_X11_meaning (w_X11_meaning_0_32 c0 c3 c6 c7 (by rw [c6]; decide) c8)
          · rw [if_neg c8]
            exact v_X11_meaning (w_X11_meaning_0_33 c0 c3 c6 c7 (by rw [c6]; decide) c8)
      · rw [if_neg c6]
        by_cases c9 : l0 = (3 : Int32)
        · rw [if_pos c9]
          by_cases c10 : l1 = (2 : Int32)
          · rw [if_pos c10]
            exact v_X11_meaning (w_X11_meaning_0_34 c0 c3 c6 c9 c10)
          · rw [if_neg c10]
            exact v_X11_meaning (w_X11_meaning_0_35 c0 c3 c6 c9 c10)
        · rw [if_neg c9]
          exact v_X11_meaning (w_X11_meaning_0_36 c0 c3 c6 c9)
def F_X11_numberAt (h : xm_H) (t : Nat) (l1 : Int32) (l2 : Int32) : Int64 := (h.2.1 101 ((((60 : Int32) * l1) + l2).toNatClampNeg))
theorem f_X11_numberAt {L : Nat} {xs : Nat → Int32} {d : Nat} {h : xm_H} {t : Nat} (hR : h.2.2 = xm_R0 t) (ht : t = 5 ∨ t = 13) {l1 : Int32} {l2 : Int32} (g0 : ¬ (((60 : Int32) * l1) + l2 < 0 ∨ 240 ≤ (((60 : Int32) * l1) + l2).toNatClampNeg)) : xm_V (xm_X0 L xs) xm_P (d + 1) 254 [.ref 82, .int l1, .int l2] h (some (.long (F_X11_numberAt h t l1 l2))) h := by
  unfold F_X11_numberAt
  exact v_X11_numberAt (p_X11_numberAt_0_0 xs_82 (rr_l82_37 hR) xs_101 (g0))
def F_X11_isWished (h : xm_H) (t : Nat) : Int32 := if h.1 83 13 ≤ (0 : Int32) then (0 : Int32) else (1 : Int32)
theorem f_X11_isWished {L : Nat} {xs : Nat → Int32} {d : Nat} {h : xm_H} {t : Nat} (hR : h.2.2 = xm_R0 t) (ht : t = 5 ∨ t = 13) : xm_V (xm_X0 L xs) xm_P (d + 1) 259 [.ref 82] h (some (.int (F_X11_isWished h t))) h := by
  unfold F_X11_isWished
  by_cases c0 : h.1 83 13 ≤ (0 : Int32)
  · rw [if_pos c0]
    exact v_X11_isWished (p_X11_isWished_0_0 xs_82 (rr_l82_1 hR) xs_83 (by decide) c0)
  · rw [if_neg c0]
    exact v_X11_isWished (p_X11_isWished_0_1 xs_82 (rr_l82_1 hR) xs_83 (by decide) c0)
def F_X11_choices (h : xm_H) (t : Nat) : Int32 := if h.1 82 24 = (-1 : Int32) then (10 : Int32) else (7 : Int32)
theorem f_X11_choices {L : Nat} {xs : Nat → Int32} {d : Nat} {h : xm_H} {t : Nat} (hR : h.2.2 = xm_R0 t) (ht : t = 5 ∨ t = 13) : xm_V (xm_X0 L xs) xm_P (d + 1) 262 [.ref 82] h (some (.int (F_X11_choices h t))) h := by
  unfold F_X11_choices
  by_cases c0 : h.1 82 24 = (-1 : Int32)
  · rw [if_pos c0]
    exact v_X11_choices (p_X11_choices_0_0 xs_82 c0)
  · rw [if_neg c0]
    exact v_X11_choices (p_X11_choices_0_1 xs_82 c0)
def F_X11_allCalls (h : xm_H) (t : Nat) : Int32 := (((1 : Int32) <<< ((h.1 83 19) &&& 31)) - (1 : Int32))
theorem f_X11_allCalls {L : Nat} {xs : Nat → Int32} {d : Nat} {h : xm_H} {t : Nat} (hR : h.2.2 = xm_R0 t) (ht : t = 5 ∨ t = 13) : xm_V (xm_X0 L xs) xm_P (d + 1) 289 [.ref 82] h (some (.int (F_X11_allCalls h t))) h := by
  unfold F_X11_allCalls
  exact v_X11_allCalls (p_X11_allCalls_0_0 xs_82 (rr_l82_1 hR) xs_83 (by decide))
def F_X11_slips (l0 : Int32) : Int32 := if l0 = (0 : Int32) then (1 : Int32) else (if l0 = (1 : Int32) then (1 : Int32) else (0 : Int32))
theorem f_X11_slips {L : Nat} {xs : Nat → Int32} {d : Nat} {h : xm_H} {l0 : Int32} : xm_V (xm_X0 L xs) xm_P (d + 1) 296 [.int l0] h (some (.int (F_X11_slips l0))) h := by
  unfold F_X11_slips
  by_cases c0 : l0 = (0 : Int32)
  · rw [if_pos c0]
    exact v_X11_slips (p_X11_slips_0_0 c0)
  · rw [if_neg c0]
    by_cases c1 : l0 = (1 : Int32)
    · rw [if_pos c1]
      exact v_X11_slips (p_X11_slips_0_1 c0 c1)
    · rw [if_neg c1]
      exact v_X11_slips (p_X11_slips_0_2 c0 c1)
def F_X11_cut (l0 : Int64) (l2 : Int32) : Int64 := ((l0 <<< (((64 : Int32) - ((8 : Int32) <<< (l2 &&& 31))).toInt64 &&& 63)) >>> (((64 : Int32) - ((8 : Int32) <<< (l2 &&& 31))).toInt64 &&& 63))
theorem f_X11_cut {L : Nat} {xs : Nat → Int32} {d : Nat} {h : xm_H} {l0 : Int64} {l2 : Int32} : xm_V (xm_X0 L xs) xm_P (d + 1) 330 [.long l0, .int l2] h (some (.long (F_X11_cut l0 l2))) h := by
  unfold F_X11_cut
  exact v_X11_cut (p_X11_cut_0_0 )
def F_X0_firstState (h : xm_H) (t : Nat) : Int32 := (F_X5_pack (h.1 t 1) (h.1 t 2) (0 : Int32) (0 : Int32) (0 : Int32))
theorem f_X0_firstState {L : Nat} {xs : Nat → Int32} {d : Nat} {h : xm_H} {t : Nat} (hR : h.2.2 = xm_R0 t) (ht : t = 5 ∨ t = 13) : xm_V (xm_X0 L xs) xm_P (d + 2) 32 [.ref t] h (some (.int (F_X0_firstState h t))) h := by
  unfold F_X0_firstState
  exact v_X0_firstState (p_X0_firstState_0_0 (xt_0 ht) (f_X5_pack (d := d + 0)))
def F_X0_layersOf (h : xm_H) (t : Nat) (l1 : Int32) : Int32 := if (0 : Int32) < (F_X5_longOf l1) * (F_X5_wideOf l1) then (((h.1 t 1) * (h.1 t 2)) / ((F_X5_longOf l1) * (F_X5_wideOf l1))) else (0 : Int32)
theorem f_X0_layersOf {L : Nat} {xs : Nat → Int32} {d : Nat} {h : xm_H} {t : Nat} (hR : h.2.2 = xm_R0 t) (ht : t = 5 ∨ t = 13) {l1 : Int32} (g0 : ((0 : Int32) < (F_X5_longOf l1) * (F_X5_wideOf l1)) → ¬ ((F_X5_longOf l1) * (F_X5_wideOf l1)) = 0) : xm_V (xm_X0 L xs) xm_P (d + 2) 43 [.ref t, .int l1] h (some (.int (F_X0_layersOf h t l1))) h := by
  unfold F_X0_layersOf
  by_cases c0 : (0 : Int32) < (F_X5_longOf l1) * (F_X5_wideOf l1)
  · rw [if_pos c0]
    exact v_X0_layersOf (p_X0_layersOf_0_0 (f_X5_longOf (d := d + 0)) (f_X5_wideOf (d := d + 0)) c0 (xt_0 ht) (g0 c0))
  · rw [if_neg c0]
    exact v_X0_layersOf (p_X0_layersOf_0_1 (f_X5_longOf (d := d + 0)) (f_X5_wideOf (d := d + 0)) c0)
def F_X5_possible (l0 : Int32) (l1 : Int32) (l2 : Int32) : Int32 := if l1 = (8 : Int32) then (if (F_X5_twistOf l0) = (0 : Int32) then (if l2 < (F_X5_wideOf l0) then (0 : Int32) else (1 : Int32)) else (0 : Int32)) else (if l1 = (9 : Int32) then (if (F_X5_twistOf l0) = (0 : Int32) then (0 : Int32) else (1 : Int32)) else (if l1 = (10 : Int32) then (if l2 < (F_X5_longOf l0) then (0 : Int32) else (if (F_X5_divides (F_X5_longOf l0) (F_X5_wideOf l0) l1) = (0 : Int32) then (0 : Int32) else (if (2 : Int32) ≤ (F_X5_twistOf l0) then (0 : Int32) else (1 : Int32)))) else (if l1 = (11 : Int32) then (if l2 < (F_X5_longOf l0) then (0 : Int32) else (if (F_X5_divides (F_X5_longOf l0) (F_X5_wideOf l0) l1) = (0 : Int32) then (0 : Int32) else (if (F_X5_twistOf l0) ≤ (-2 : Int32) then (0 : Int32) else (1 : Int32)))) else (if l1 = (12 : Int32) then (1 : Int32) else (if l2 < (F_X5_longOf l0) then (0 : Int32) else (if (F_X5_divides (F_X5_longOf l0) (F_X5_wideOf l0) l1) = (0 : Int32) then (0 : Int32) else (if (F_X5_twistOf l0) = (0 : Int32) then (1 : Int32) else (0 : Int32))))))))
theorem f_X5_possible {L : Nat} {xs : Nat → Int32} {d : Nat} {h : xm_H} {l0 : Int32} {l1 : Int32} {l2 : Int32} : xm_V (xm_X0 L xs) xm_P (d + 2) 47 [.int l0, .int l1, .int l2] h (some (.int (F_X5_possible l0 l1 l2))) h := by
  unfold F_X5_possible
  by_cases c0 : l1 = (8 : Int32)
  · rw [if_pos c0]
    by_cases c1 : (F_X5_twistOf l0) = (0 : Int32)
    · rw [if_pos c1]
      by_cases c2 : l2 < (F_X5_wideOf l0)
      · rw [if_pos c2]
        exact v_X5_possible (p_X5_possible_0_0 (f_X5_twistOf (d := d + 0)) c0 c1 (f_X5_wideOf (d := d + 0)) c2)
      · rw [if_neg c2]
        exact v_X5_possible (p_X5_possible_0_1 (f_X5_twistOf (d := d + 0)) c0 c1 (f_X5_wideOf (d := d + 0)) c2)
    · rw [if_neg c1]
      exact v_X5_possible (p_X5_possible_0_2 (f_X5_twistOf (d := d + 0)) c0 c1)
  · rw [if_neg c0]
    by_cases c3 : l1 = (9 : Int32)
    · rw [if_pos c3]
      by_cases c4 : (F_X5_twistOf l0) = (0 : Int32)
      · rw [if_pos c4]
        exact v_X5_possible (p_X5_possible_0_3 (f_X5_twistOf (d := d + 0)) c3 c4)
      · rw [if_neg c4]
        exact v_X5_possible (p_X5_possible_0_4 (f_X5_twistOf (d := d + 0)) c3 c4)
    · rw [if_neg c3]
      by_cases c5 : l1 = (10 : Int32)
      · rw [if_pos c5]
        by_cases c6 : l2 < (F_X5_longOf l0)
        · rw [if_pos c6]
          exact v_X5_possible (p_X5_possible_0_5 (f_X5_twistOf (d := d + 0)) c5 (f_X5_longOf (d := d + 0)) c6)
        · rw [if_neg c6]
          by_cases c7 : (F_X5_divides (F_X5_longOf l0) (F_X5_wideOf l0) l1) = (0 : Int32)
          · rw [if_pos c7]
            exact v_X5_possible (p_X5_possible_0_6 (f_X5_twistOf (d := d + 0)) c5 (f_X5_longOf (d := d + 0)) c6 (f_X5_wideOf (d := d + 0)) (f_X5_divides (d := d + 0)) c7)
          · rw [if_neg c7]
            by_cases c8 : (2 : Int32) ≤ (F_X5_twistOf l0)
            · rw [if_pos c8]
              exact v_X5_possible (p_X5_possible_0_7 (f_X5_twistOf (d := d + 0)) c5 (f_X5_longOf (d := d + 0)) c6 (f_X5_wideOf (d := d + 0)) (f_X5_divides (d := d + 0)) c7 c8)
            · rw [if_neg c8]
              exact v_X5_possible (p_X5_possible_0_8 (f_X5_twistOf (d := d + 0)) c5 (f_X5_longOf (d := d + 0)) c6 (f_X5_wideOf (d := d + 0)) (f_X5_divides (d := d + 0)) c7 c8)
      · rw [if_neg c5]
        by_cases c9 : l1 = (11 : Int32)
        · rw [if_pos c9]
          by_cases c10 : l2 < (F_X5_longOf l0)
          · rw [if_pos c10]
            exact v_X5_possible (p_X5_possible_0_13 (f_X5_twistOf (d := d + 0)) c9 (f_X5_longOf (d := d + 0)) c10)
          · rw [if_neg c10]
            by_cases c11 : (F_X5_divides (F_X5_longOf l0) (F_X5_wideOf l0) l1) = (0 : Int32)
            · rw [if_pos c11]
              exact v_X5_possible (p_X5_possible_0_14 (f_X5_twistOf (d := d + 0)) c9 (f_X5_longOf (d := d + 0)) c10 (f_X5_wideOf (d := d + 0)) (f_X5_divides (d := d + 0)) c11)
            · rw [if_neg c11]
              by_cases c12 : (F_X5_twistOf l0) ≤ (-2 : Int32)
              · rw [if_pos c12]
                exact v_X5_possible (p_X5_possible_0_17 (f_X5_twistOf (d := d + 0)) c9 (f_X5_longOf (d := d + 0)) c10 (f_X5_wideOf (d := d + 0)) (f_X5_divides (d := d + 0)) c11 c12)
              · rw [if_neg c12]
                exact v_X5_possible (p_X5_possible_0_18 (f_X5_twistOf (d := d + 0)) c9 (f_X5_longOf (d := d + 0)) c10 (f_X5_wideOf (d := d + 0)) (f_X5_divides (d := d + 0)) c11 c12)
        · rw [if_neg c9]
          by_cases c13 : l1 = (12 : Int32)
          · rw [if_pos c13]
            exact v_X5_possible (p_X5_possible_0_21 (f_X5_twistOf (d := d + 0)) c13)
          · rw [if_neg c13]
            by_cases c14 : l2 < (F_X5_longOf l0)
            · rw [if_pos c14]
              exact v_X5_possible (p_X5_possible_0_22 (f_X5_twistOf (d := d + 0)) (sw_out (lo := 8) (hi := 12) (by decide) (fun k hk1 hk2 => by
                  have hk : k = 8 ∨ k = 9 ∨ k = 10 ∨ k = 11 ∨ k = 12 := by omega
                  rcases hk with rfl | rfl | rfl | rfl | rfl <;> first | exact c0 | exact c3 | exact c5 | exact c9 | exact c13)) (f_X5_longOf (d := d + 0)) c14)
            · rw [if_neg c14]
              by_cases c15 : (F_X5_divides (F_X5_longOf l0) (F_X5_wideOf l0) l1) = (0 : Int32)
              · rw [if_pos c15]
                exact v_X5_possible (p_X5_possible_0_23 (f_X5_twistOf (d := d + 0)) (sw_out (lo := 8) (hi := 12) (by decide) (fun k hk1 hk2 => by
                    have hk : k = 8 ∨ k = 9 ∨ k = 10 ∨ k = 11 ∨ k = 12 := by omega
                    rcases hk with rfl | rfl | rfl | rfl | rfl <;> first | exact c0 | exact c3 | exact c5 | exact c9 | exact c13)) (f_X5_longOf (d := d + 0)) c14 (f_X5_wideOf (d := d + 0)) (f_X5_divides (d := d + 0)) c15)
              · rw [if_neg c15]
                by_cases c16 : (F_X5_twistOf l0) = (0 : Int32)
                · rw [if_pos c16]
                  exact v_X5_possible (p_X5_possible_0_28 (f_X5_twistOf (d := d + 0)) (sw_out (lo := 8) (hi := 12) (by decide) (fun k hk1 hk2 => by
                      have hk : k = 8 ∨ k = 9 ∨ k = 10 ∨ k = 11 ∨ k = 12 := by omega
                      rcases hk with rfl | rfl | rfl | rfl | rfl <;> first | exact c0 | exact c3 | exact c5 | exact c9 | exact c13)) (f_X5_longOf (d := d + 0)) c14 (f_X5_wideOf (d := d + 0)) (f_X5_divides (d := d + 0)) c15 (fun e => lv_neT c5 (by decide) e.symm) (fun e => lv_neT c9 (by decide) e.symm) c16)
                · rw [if_neg c16]
                  exact v_X5_possible (p_X5_possible_0_29 (f_X5_twistOf (d := d + 0)) (sw_out (lo := 8) (hi := 12) (by decide) (fun k hk1 hk2 => by
                      have hk : k = 8 ∨ k = 9 ∨ k = 10 ∨ k = 11 ∨ k = 12 := by omega
                      rcases hk with rfl | rfl | rfl | rfl | rfl <;> first | exact c0 | exact c3 | exact c5 | exact c9 | exact c13)) (f_X5_longOf (d := d + 0)) c14 (f_X5_wideOf (d := d + 0)) (f_X5_divides (d := d + 0)) c15 (fun e => lv_neT c5 (by decide) e.symm) (fun e => lv_neT c9 (by decide) e.symm) c16)
def F_X5_folded (l0 : Int32) (l1 : Int32) : Int32 := if l1 = (0 : Int32) then (F_X5_pack (F_X5_longOf l0) ((F_X5_wideOf l0) / (2 : Int32)) (F_X5_hemBehind (F_X5_hemOf l0) l1) ((((109 : Int32) >>> (l1 &&& 31)) &&& (1 : Int32)) ^^^ (F_X5_faceOf l0)) (F_X5_twistOf l0)) else (if l1 = (1 : Int32) then (F_X5_pack (F_X5_longOf l0) ((F_X5_wideOf l0) / (2 : Int32)) (F_X5_hemBehind (F_X5_hemOf l0) l1) ((((109 : Int32) >>> (l1 &&& 31)) &&& (1 : Int32)) ^^^ (F_X5_faceOf l0)) (F_X5_twistOf l0)) else (if l1 = (2 : Int32) then (F_X5_pack (F_X5_longOf l0) ((F_X5_wideOf l0) / (3 : Int32)) (F_X5_hemBehind (F_X5_hemOf l0) l1) ((((109 : Int32) >>> (l1 &&& 31)) &&& (1 : Int32)) ^^^ (F_X5_faceOf l0)) (F_X5_twistOf l0)) else (if l1 = (3 : Int32) then (F_X5_pack ((F_X5_longOf l0) / (2 : Int32)) (F_X5_wideOf l0) (F_X5_hemBehind (F_X5_hemOf l0) l1) ((((109 : Int32) >>> (l1 &&& 31)) &&& (1 : Int32)) ^^^ (F_X5_faceOf l0)) (F_X5_twistOf l0)) else (if l1 = (4 : Int32) then (F_X5_pack ((F_X5_longOf l0) / (2 : Int32)) (F_X5_wideOf l0) (F_X5_hemBehind (F_X5_hemOf l0) l1) ((((109 : Int32) >>> (l1 &&& 31)) &&& (1 : Int32)) ^^^ (F_X5_faceOf l0)) (F_X5_twistOf l0)) else (if l1 = (5 : Int32) then (F_X5_pack ((F_X5_longOf l0) / (2 : Int32)) (F_X5_wideOf l0) (F_X5_hemBehind (F_X5_hemOf l0) l1) ((((109 : Int32) >>> (l1 &&& 31)) &&& (1 : Int32)) ^^^ (F_X5_faceOf l0)) (F_X5_twistOf l0)) else (if l1 = (6 : Int32) then (F_X5_pack (F_X5_longOf l0) (F_X5_wideOf l0) (F_X5_hemBehind (F_X5_hemOf l0) l1) ((((109 : Int32) >>> (l1 &&& 31)) &&& (1 : Int32)) ^^^ (F_X5_faceOf l0)) (F_X5_twistOf l0)) else (if l1 = (7 : Int32) then (F_X5_pack (F_X5_longOf l0) (F_X5_wideOf l0) (F_X5_hemBehind (F_X5_hemOf l0) l1) ((((109 : Int32) >>> (l1 &&& 31)) &&& (1 : Int32)) ^^^ (F_X5_faceOf l0)) (F_X5_twistOf l0)) else (if l1 = (8 : Int32) then (F_X5_pack (F_X5_wideOf l0) (F_X5_longOf l0) (F_X5_hemBehind (F_X5_hemOf l0) l1) ((((109 : Int32) >>> (l1 &&& 31)) &&& (1 : Int32)) ^^^ (F_X5_faceOf l0)) (F_X5_twistOf l0)) else (if l1 = (9 : Int32) then (if (F_X5_twistOf l0) ≤ (0 : Int32) then (F_X5_pack (F_X5_longOf l0) (F_X5_wideOf l0) (F_X5_hemBehind (F_X5_hemOf l0) l1) ((((109 : Int32) >>> (l1 &&& 31)) &&& (1 : Int32)) ^^^ (F_X5_faceOf l0)) ((F_X5_twistOf l0) + (1 : Int32))) else (F_X5_pack (F_X5_longOf l0) (F_X5_wideOf l0) (F_X5_hemBehind (F_X5_hemOf l0) l1) ((((109 : Int32) >>> (l1 &&& 31)) &&& (1 : Int32)) ^^^ (F_X5_faceOf l0)) ((F_X5_twistOf l0) + (-1 : Int32)))) else (if l1 = (10 : Int32) then (F_X5_pack (F_X5_longOf l0) (F_X5_wideOf l0) (F_X5_hemBehind (F_X5_hemOf l0) l1) ((((109 : Int32) >>> (l1 &&& 31)) &&& (1 : Int32)) ^^^ (F_X5_faceOf l0)) ((F_X5_twistOf l0) + (1 : Int32))) else (if l1 = (11 : Int32) then (F_X5_pack (F_X5_longOf l0) (F_X5_wideOf l0) (F_X5_hemBehind (F_X5_hemOf l0) l1) ((((109 : Int32) >>> (l1 &&& 31)) &&& (1 : Int32)) ^^^ (F_X5_faceOf l0)) ((F_X5_twistOf l0) + (-1 : Int32))) else (F_X5_pack (F_X5_longOf l0) (F_X5_wideOf l0) (F_X5_hemBehind (F_X5_hemOf l0) l1) ((((109 : Int32) >>> (l1 &&& 31)) &&& (1 : Int32)) ^^^ (F_X5_faceOf l0)) (F_X5_twistOf l0)))))))))))))
theorem f_X5_folded {L : Nat} {xs : Nat → Int32} {d : Nat} {h : xm_H} {l0 : Int32} {l1 : Int32} (g0 : (l1 = (0 : Int32)) → (¬ (l1 < (0 : Int32))) → (¬ ((8 : Int32) < l1)) → ((F_X5_hemOf l0) < (5 : Int32)) → ¬ ((l1 * (5 : Int32)) + (F_X5_hemOf l0) < 0 ∨ 45 ≤ ((l1 * (5 : Int32)) + (F_X5_hemOf l0)).toNatClampNeg)) (g1 : (l1 = (1 : Int32)) → (¬ (l1 < (0 : Int32))) → (¬ ((8 : Int32) < l1)) → ((F_X5_hemOf l0) < (5 : Int32)) → ¬ ((l1 * (5 : Int32)) + (F_X5_hemOf l0) < 0 ∨ 45 ≤ ((l1 * (5 : Int32)) + (F_X5_hemOf l0)).toNatClampNeg)) (g2 : (l1 = (2 : Int32)) → (¬ (l1 < (0 : Int32))) → (¬ ((8 : Int32) < l1)) → ((F_X5_hemOf l0) < (5 : Int32)) → ¬ ((l1 * (5 : Int32)) + (F_X5_hemOf l0) < 0 ∨ 45 ≤ ((l1 * (5 : Int32)) + (F_X5_hemOf l0)).toNatClampNeg)) (g3 : (l1 = (3 : Int32)) → (¬ (l1 < (0 : Int32))) → (¬ ((8 : Int32) < l1)) → ((F_X5_hemOf l0) < (5 : Int32)) → ¬ ((l1 * (5 : Int32)) + (F_X5_hemOf l0) < 0 ∨ 45 ≤ ((l1 * (5 : Int32)) + (F_X5_hemOf l0)).toNatClampNeg)) (g4 : (l1 = (4 : Int32)) → (¬ (l1 < (0 : Int32))) → (¬ ((8 : Int32) < l1)) → ((F_X5_hemOf l0) < (5 : Int32)) → ¬ ((l1 * (5 : Int32)) + (F_X5_hemOf l0) < 0 ∨ 45 ≤ ((l1 * (5 : Int32)) + (F_X5_hemOf l0)).toNatClampNeg)) (g5 : (l1 = (5 : Int32)) → (¬ (l1 < (0 : Int32))) → (¬ ((8 : Int32) < l1)) → ((F_X5_hemOf l0) < (5 : Int32)) → ¬ ((l1 * (5 : Int32)) + (F_X5_hemOf l0) < 0 ∨ 45 ≤ ((l1 * (5 : Int32)) + (F_X5_hemOf l0)).toNatClampNeg)) (g6 : (l1 = (6 : Int32)) → (¬ (l1 < (0 : Int32))) → (¬ ((8 : Int32) < l1)) → ((F_X5_hemOf l0) < (5 : Int32)) → ¬ ((l1 * (5 : Int32)) + (F_X5_hemOf l0) < 0 ∨ 45 ≤ ((l1 * (5 : Int32)) + (F_X5_hemOf l0)).toNatClampNeg)) (g7 : (l1 = (7 : Int32)) → (¬ (l1 < (0 : Int32))) → (¬ ((8 : Int32) < l1)) → ((F_X5_hemOf l0) < (5 : Int32)) → ¬ ((l1 * (5 : Int32)) + (F_X5_hemOf l0) < 0 ∨ 45 ≤ ((l1 * (5 : Int32)) + (F_X5_hemOf l0)).toNatClampNeg)) (g8 : (l1 = (8 : Int32)) → (¬ (l1 < (0 : Int32))) → (¬ ((8 : Int32) < l1)) → ((F_X5_hemOf l0) < (5 : Int32)) → ¬ ((l1 * (5 : Int32)) + (F_X5_hemOf l0) < 0 ∨ 45 ≤ ((l1 * (5 : Int32)) + (F_X5_hemOf l0)).toNatClampNeg)) (g9 : (l1 = (9 : Int32)) → ((F_X5_twistOf l0) ≤ (0 : Int32)) → (¬ (l1 < (0 : Int32))) → (¬ ((8 : Int32) < l1)) → ((F_X5_hemOf l0) < (5 : Int32)) → ¬ ((l1 * (5 : Int32)) + (F_X5_hemOf l0) < 0 ∨ 45 ≤ ((l1 * (5 : Int32)) + (F_X5_hemOf l0)).toNatClampNeg)) (g10 : (l1 = (9 : Int32)) → (¬ ((F_X5_twistOf l0) ≤ (0 : Int32))) → (¬ (l1 < (0 : Int32))) → (¬ ((8 : Int32) < l1)) → ((F_X5_hemOf l0) < (5 : Int32)) → ¬ ((l1 * (5 : Int32)) + (F_X5_hemOf l0) < 0 ∨ 45 ≤ ((l1 * (5 : Int32)) + (F_X5_hemOf l0)).toNatClampNeg)) (g11 : (l1 = (10 : Int32)) → (¬ (l1 < (0 : Int32))) → (¬ ((8 : Int32) < l1)) → ((F_X5_hemOf l0) < (5 : Int32)) → ¬ ((l1 * (5 : Int32)) + (F_X5_hemOf l0) < 0 ∨ 45 ≤ ((l1 * (5 : Int32)) + (F_X5_hemOf l0)).toNatClampNeg)) (g12 : (l1 = (11 : Int32)) → (¬ (l1 < (0 : Int32))) → (¬ ((8 : Int32) < l1)) → ((F_X5_hemOf l0) < (5 : Int32)) → ¬ ((l1 * (5 : Int32)) + (F_X5_hemOf l0) < 0 ∨ 45 ≤ ((l1 * (5 : Int32)) + (F_X5_hemOf l0)).toNatClampNeg)) (g13 : (¬ (l1 < (0 : Int32))) → (¬ ((8 : Int32) < l1)) → ((F_X5_hemOf l0) < (5 : Int32)) → ¬ ((l1 * (5 : Int32)) + (F_X5_hemOf l0) < 0 ∨ 45 ≤ ((l1 * (5 : Int32)) + (F_X5_hemOf l0)).toNatClampNeg)) : xm_V (xm_X0 L xs) xm_P (d + 2) 52 [.int l0, .int l1] h (some (.int (F_X5_folded l0 l1))) h := by
  unfold F_X5_folded
  by_cases c0 : l1 = (0 : Int32)
  · rw [if_pos c0]
    exact v_X5_folded (p_X5_folded_0_0 (f_X5_longOf (d := d + 0)) (f_X5_wideOf (d := d + 0)) (f_X5_twistOf (d := d + 0)) c0 (f_X5_faceOf (d := d + 0)) (f_X5_hemOf (d := d + 0)) (f_X5_hemBehind (d := d + 0) (g0 c0)) (f_X5_pack (d := d + 0)))
  · rw [if_neg c0]
    by_cases c1 : l1 = (1 : Int32)
    · rw [if_pos c1]
      exact v_X5_folded (p_X5_folded_0_1 (f_X5_longOf (d := d + 0)) (f_X5_wideOf (d := d + 0)) (f_X5_twistOf (d := d + 0)) c1 (f_X5_faceOf (d := d + 0)) (f_X5_hemOf (d := d + 0)) (f_X5_hemBehind (d := d + 0) (g1 c1)) (f_X5_pack (d := d + 0)))
    · rw [if_neg c1]
      by_cases c2 : l1 = (2 : Int32)
      · rw [if_pos c2]
        exact v_X5_folded (p_X5_folded_0_2 (f_X5_longOf (d := d + 0)) (f_X5_wideOf (d := d + 0)) (f_X5_twistOf (d := d + 0)) c2 (f_X5_faceOf (d := d + 0)) (f_X5_hemOf (d := d + 0)) (f_X5_hemBehind (d := d + 0) (g2 c2)) (f_X5_pack (d := d + 0)))
      · rw [if_neg c2]
        by_cases c3 : l1 = (3 : Int32)
        · rw [if_pos c3]
          exact v_X5_folded (p_X5_folded_0_3 (f_X5_longOf (d := d + 0)) (f_X5_wideOf (d := d + 0)) (f_X5_twistOf (d := d + 0)) c3 (f_X5_faceOf (d := d + 0)) (f_X5_hemOf (d := d + 0)) (f_X5_hemBehind (d := d + 0) (g3 c3)) (f_X5_pack (d := d + 0)))
        · rw [if_neg c3]
          by_cases c4 : l1 = (4 : Int32)
          · rw [if_pos c4]
            exact v_X5_folded (p_X5_folded_0_4 (f_X5_longOf (d := d + 0)) (f_X5_wideOf (d := d + 0)) (f_X5_twistOf (d := d + 0)) c4 (f_X5_faceOf (d := d + 0)) (f_X5_hemOf (d := d + 0)) (f_X5_hemBehind (d := d + 0) (g4 c4)) (f_X5_pack (d := d + 0)))
          · rw [if_neg c4]
            by_cases c5 : l1 = (5 : Int32)
            · rw [if_pos c5]
              exact v_X5_folded (p_X5_folded_0_5 (f_X5_longOf (d := d + 0)) (f_X5_wideOf (d := d + 0)) (f_X5_twistOf (d := d + 0)) c5 (f_X5_faceOf (d := d + 0)) (f_X5_hemOf (d := d + 0)) (f_X5_hemBehind (d := d + 0) (g5 c5)) (f_X5_pack (d := d + 0)))
            · rw [if_neg c5]
              by_cases c6 : l1 = (6 : Int32)
              · rw [if_pos c6]
                exact v_X5_folded (p_X5_folded_0_6 (f_X5_longOf (d := d + 0)) (f_X5_wideOf (d := d + 0)) (f_X5_twistOf (d := d + 0)) c6 (f_X5_faceOf (d := d + 0)) (f_X5_hemOf (d := d + 0)) (f_X5_hemBehind (d := d + 0) (g6 c6)) (f_X5_pack (d := d + 0)))
              · rw [if_neg c6]
                by_cases c7 : l1 = (7 : Int32)
                · rw [if_pos c7]
                  exact v_X5_folded (p_X5_folded_0_7 (f_X5_longOf (d := d + 0)) (f_X5_wideOf (d := d + 0)) (f_X5_twistOf (d := d + 0)) c7 (f_X5_faceOf (d := d + 0)) (f_X5_hemOf (d := d + 0)) (f_X5_hemBehind (d := d + 0) (g7 c7)) (f_X5_pack (d := d + 0)))
                · rw [if_neg c7]
                  by_cases c8 : l1 = (8 : Int32)
                  · rw [if_pos c8]
                    exact v_X5_folded (p_X5_folded_0_8 (f_X5_longOf (d := d + 0)) (f_X5_wideOf (d := d + 0)) (f_X5_twistOf (d := d + 0)) c8 (f_X5_wideOf (d := d + 0)) (f_X5_longOf (d := d + 0)) (f_X5_faceOf (d := d + 0)) (f_X5_hemOf (d := d + 0)) (f_X5_hemBehind (d := d + 0) (g8 c8)) (f_X5_pack (d := d + 0)))
                  · rw [if_neg c8]
                    by_cases c9 : l1 = (9 : Int32)
                    · rw [if_pos c9]
                      by_cases c10 : (F_X5_twistOf l0) ≤ (0 : Int32)
                      · rw [if_pos c10]
                        exact v_X5_folded (p_X5_folded_0_9 (f_X5_longOf (d := d + 0)) (f_X5_wideOf (d := d + 0)) (f_X5_twistOf (d := d + 0)) c9 c10 (f_X5_faceOf (d := d + 0)) (f_X5_hemOf (d := d + 0)) (f_X5_hemBehind (d := d + 0) (g9 c9 c10)) (f_X5_pack (d := d + 0)))
                      · rw [if_neg c10]
                        exact v_X5_folded (p_X5_folded_0_10 (f_X5_longOf (d := d + 0)) (f_X5_wideOf (d := d + 0)) (f_X5_twistOf (d := d + 0)) c9 c10 (f_X5_faceOf (d := d + 0)) (f_X5_hemOf (d := d + 0)) (f_X5_hemBehind (d := d + 0) (g10 c9 c10)) (f_X5_pack (d := d + 0)))
                    · rw [if_neg c9]
                      by_cases c11 : l1 = (10 : Int32)
                      · rw [if_pos c11]
                        exact v_X5_folded (p_X5_folded_0_11 (f_X5_longOf (d := d + 0)) (f_X5_wideOf (d := d + 0)) (f_X5_twistOf (d := d + 0)) c11 (f_X5_faceOf (d := d + 0)) (f_X5_hemOf (d := d + 0)) (f_X5_hemBehind (d := d + 0) (g11 c11)) (f_X5_pack (d := d + 0)))
                      · rw [if_neg c11]
                        by_cases c12 : l1 = (11 : Int32)
                        · rw [if_pos c12]
                          exact v_X5_folded (p_X5_folded_0_12 (f_X5_longOf (d := d + 0)) (f_X5_wideOf (d := d + 0)) (f_X5_twistOf (d := d + 0)) c12 (f_X5_faceOf (d := d + 0)) (f_X5_hemOf (d := d + 0)) (f_X5_hemBehind (d := d + 0) (g12 c12)) (f_X5_pack (d := d + 0)))
                        · rw [if_neg c12]
                          exact v_X5_folded (p_X5_folded_0_13 (f_X5_longOf (d := d + 0)) (f_X5_wideOf (d := d + 0)) (f_X5_twistOf (d := d + 0)) (sw_out (lo := 0) (hi := 11) (by decide) (fun k hk1 hk2 => by
                              have hk : k = 0 ∨ k = 1 ∨ k = 2 ∨ k = 3 ∨ k = 4 ∨ k = 5 ∨ k = 6 ∨ k = 7 ∨ k = 8 ∨ k = 9 ∨ k = 10 ∨ k = 11 := by omega
                              rcases hk with rfl | rfl | rfl | rfl | rfl | rfl | rfl | rfl | rfl | rfl | rfl | rfl <;> first | exact c0 | exact c1 | exact c2 | exact c3 | exact c4 | exact c5 | exact c6 | exact c7 | exact c8 | exact c9 | exact c11 | exact c12)) (f_X5_faceOf (d := d + 0)) (f_X5_hemOf (d := d + 0)) (f_X5_hemBehind (d := d + 0) (g13)) (f_X5_pack (d := d + 0)))
def F_X0_actOf (h : xm_H) (t : Nat) (l1 : Int32) : Int32 := (F_X0_actOfBoth (F_X0_herAct h t l1) (F_X0_hisAct h t l1))
theorem f_X0_actOf {L : Nat} {xs : Nat → Int32} {d : Nat} {h : xm_H} {t : Nat} (hR : h.2.2 = xm_R0 t) (ht : t = 5 ∨ t = 13) {l1 : Int32} (g0 : (¬ (l1 < (0 : Int32))) → (¬ (Int32.ofNat 6 ≤ l1)) → ¬ (l1 < 0 ∨ 6 ≤ l1.toNatClampNeg)) (g1 : (¬ ((F_X0_herAct h t l1) < (0 : Int32))) → (¬ ((4 : Int32) ≤ (F_X0_herAct h t l1))) → (¬ ((F_X0_hisAct h t l1) < (0 : Int32))) → ((F_X0_hisAct h t l1) < (4 : Int32)) → ¬ (((F_X0_herAct h t l1) * (4 : Int32)) + (F_X0_hisAct h t l1) < 0 ∨ 16 ≤ (((F_X0_herAct h t l1) * (4 : Int32)) + (F_X0_hisAct h t l1)).toNatClampNeg)) : xm_V (xm_X0 L xs) xm_P (d + 2) 57 [.ref t, .int l1] h (some (.int (F_X0_actOf h t l1))) h := by
  unfold F_X0_actOf
  exact v_X0_actOf (p_X0_actOf_0_0 (f_X0_herAct (d := d + 0) hR ht (g0)) (xt_0 ht) (f_X0_hisAct (d := d + 0) hR ht (g0)) (f_X0_actOfBoth (d := d + 0) (g1)))
def F_X10_led (h : xm_H) (t : Nat) (l1 : Int32) : Int32 := if (F_X9_isNone h t) = (0 : Int32) then (F_X9_doneAt h t l1) else (-2 : Int32)
theorem f_X10_led {L : Nat} {xs : Nat → Int32} {d : Nat} {h : xm_H} {t : Nat} (hR : h.2.2 = xm_R0 t) (ht : t = 5 ∨ t = 13) {l1 : Int32} (g0 : ((F_X9_isNone h t) = (0 : Int32)) → (¬ (l1 < (0 : Int32))) → (¬ (h.1 3 2 ≤ l1)) → (¬ ((60 : Int32) ≤ l1)) → ¬ (l1 < 0 ∨ 60 ≤ l1.toNatClampNeg)) : xm_V (xm_X0 L xs) xm_P (d + 2) 63 [.ref 0, .int l1] h (some (.int (F_X10_led h t l1))) h := by
  unfold F_X10_led
  by_cases c0 : (F_X9_isNone h t) = (0 : Int32)
  · rw [if_pos c0]
    exact v_X10_led (p_X10_led_0_0 xs_0 (rr_l0_1 hR) (f_X9_isNone (d := d + 0) hR ht) xs_3 c0 (rr_l0_1 hR) (f_X9_doneAt (d := d + 0) hR ht (g0 c0)) xs_3)
  · rw [if_neg c0]
    exact v_X10_led (p_X10_led_0_1 xs_0 (rr_l0_1 hR) (f_X9_isNone (d := d + 0) hR ht) xs_3 c0)
def F_X10_hasWish (h : xm_H) (t : Nat) : Int32 := (F_X8_isMade h t)
theorem f_X10_hasWish {L : Nat} {xs : Nat → Int32} {d : Nat} {h : xm_H} {t : Nat} (hR : h.2.2 = xm_R0 t) (ht : t = 5 ∨ t = 13) (g0 : xm_okr 3 (F_X8_isMade h t) = true) : xm_V (xm_X0 L xs) xm_P (d + 2) 78 [.ref 0] h (some (.int (F_X10_hasWish h t))) h := by
  unfold F_X10_hasWish
  exact v_X10_hasWish (p_X10_hasWish_0_0 xs_0 (rr_l0_1 hR) xs_3 (rr_l3_0 hR) (xt_0 ht) (rr_t0_12 hR ht) (f_X8_isMade (d := d + 0) hR ht) (xt_1 ht) (g0))
def F_X3_cellOf (l0 : Int32) : Int32 := if (F_X5_longOf l0) < (1 : Int32) then (-1 : Int32) else (if (48 : Int32) < (F_X5_longOf l0) then (-1 : Int32) else (if (F_X5_wideOf l0) < (1 : Int32) then (-1 : Int32) else (if (F_X5_wideOf l0) ≤ (48 : Int32) then (((((F_X5_longOf l0) - (1 : Int32)) * (48 : Int32)) + (F_X5_wideOf l0)) - (1 : Int32)) else (-1 : Int32))))
theorem f_X3_cellOf {L : Nat} {xs : Nat → Int32} {d : Nat} {h : xm_H} {l0 : Int32} : xm_V (xm_X0 L xs) xm_P (d + 2) 83 [.int l0] h (some (.int (F_X3_cellOf l0))) h := by
  unfold F_X3_cellOf
  by_cases c0 : (F_X5_longOf l0) < (1 : Int32)
  · rw [if_pos c0]
    exact v_X3_cellOf (p_X3_cellOf_0_0 (f_X5_longOf (d := d + 0)) (f_X5_wideOf (d := d + 0)) c0)
  · rw [if_neg c0]
    by_cases c1 : (48 : Int32) < (F_X5_longOf l0)
    · rw [if_pos c1]
      exact v_X3_cellOf (p_X3_cellOf_0_1 (f_X5_longOf (d := d + 0)) (f_X5_wideOf (d := d + 0)) c0 c1)
    · rw [if_neg c1]
      by_cases c2 : (F_X5_wideOf l0) < (1 : Int32)
      · rw [if_pos c2]
        exact v_X3_cellOf (p_X3_cellOf_0_2 (f_X5_longOf (d := d + 0)) (f_X5_wideOf (d := d + 0)) c0 c1 c2)
      · rw [if_neg c2]
        by_cases c3 : (F_X5_wideOf l0) ≤ (48 : Int32)
        · rw [if_pos c3]
          exact v_X3_cellOf (p_X3_cellOf_0_3 (f_X5_longOf (d := d + 0)) (f_X5_wideOf (d := d + 0)) c0 c1 c2 c3)
        · rw [if_neg c3]
          exact v_X3_cellOf (p_X3_cellOf_0_4 (f_X5_longOf (d := d + 0)) (f_X5_wideOf (d := d + 0)) c0 c1 c2 c3)
def F_X8_isMetBy (h : xm_H) (t : Nat) (l1 : Int32) : Int32 := if (F_X5_longOf l1) = h.1 (t + 1) 0 then (if (F_X5_wideOf l1) = h.1 (t + 1) 1 then (if (F_X5_twistOf l1) = (0 : Int32) then (if h.1 (t + 1) 2 = (2 : Int32) then (if h.1 (t + 1) 3 = (5 : Int32) then (1 : Int32) else (if (F_X5_hemOf l1) = h.1 (t + 1) 3 then (1 : Int32) else (0 : Int32))) else (if (F_X5_faceOf l1) = h.1 (t + 1) 2 then (if h.1 (t + 1) 3 = (5 : Int32) then (1 : Int32) else (if (F_X5_hemOf l1) = h.1 (t + 1) 3 then (1 : Int32) else (0 : Int32))) else (0 : Int32))) else (0 : Int32)) else (0 : Int32)) else (0 : Int32)
theorem f_X8_isMetBy {L : Nat} {xs : Nat → Int32} {d : Nat} {h : xm_H} {t : Nat} (hR : h.2.2 = xm_R0 t) (ht : t = 5 ∨ t = 13) {l1 : Int32} : xm_V (xm_X0 L xs) xm_P (d + 2) 88 [.ref (t + 1), .int l1] h (some (.int (F_X8_isMetBy h t l1))) h := by
  unfold F_X8_isMetBy
  by_cases c0 : (F_X5_longOf l1) = h.1 (t + 1) 0
  · rw [if_pos c0]
    by_cases c1 : (F_X5_wideOf l1) = h.1 (t + 1) 1
    · rw [if_pos c1]
      by_cases c2 : (F_X5_twistOf l1) = (0 : Int32)
      · rw [if_pos c2]
        by_cases c3 : h.1 (t + 1) 2 = (2 : Int32)
        · rw [if_pos c3]
          by_cases c4 : h.1 (t + 1) 3 = (5 : Int32)
          · rw [if_pos c4]
            exact v_X8_isMetBy (p_X8_isMetBy_0_0 (f_X5_longOf (d := d + 0)) (xt_1 ht) c0 (f_X5_wideOf (d := d + 0)) c1 (f_X5_twistOf (d := d + 0)) c2 c3 c4)
          · rw [if_neg c4]
            by_cases c5 : (F_X5_hemOf l1) = h.1 (t + 1) 3
            · rw [if_pos c5]
              exact v_X8_isMetBy (p_X8_isMetBy_0_1 (f_X5_longOf (d := d + 0)) (xt_1 ht) c0 (f_X5_wideOf (d := d + 0)) c1 (f_X5_twistOf (d := d + 0)) c2 c3 c4 (f_X5_hemOf (d := d + 0)) c5)
            · rw [if_neg c5]
              exact v_X8_isMetBy (p_X8_isMetBy_0_2 (f_X5_longOf (d := d + 0)) (xt_1 ht) c0 (f_X5_wideOf (d := d + 0)) c1 (f_X5_twistOf (d := d + 0)) c2 c3 c4 (f_X5_hemOf (d := d + 0)) c5)
        · rw [if_neg c3]
          by_cases c6 : (F_X5_faceOf l1) = h.1 (t + 1) 2
          · rw [if_pos c6]
            by_cases c7 : h.1 (t + 1) 3 = (5 : Int32)
            · rw [if_pos c7]
              exact v_X8_isMetBy (p_X8_isMetBy_0_3 (f_X5_longOf (d := d + 0)) (xt_1 ht) c0 (f_X5_wideOf (d := d + 0)) c1 (f_X5_twistOf (d := d + 0)) c2 c3 (f_X5_faceOf (d := d + 0)) c6 c7)
            · rw [if_neg c7]
              by_cases c8 : (F_X5_hemOf l1) = h.1 (t + 1) 3
              · rw [if_pos c8]
                exact v_X8_isMetBy (p_X8_isMetBy_0_4 (f_X5_longOf (d := d + 0)) (xt_1 ht) c0 (f_X5_wideOf (d := d + 0)) c1 (f_X5_twistOf (d := d + 0)) c2 c3 (f_X5_faceOf (d := d + 0)) c6 c7 (f_X5_hemOf (d := d + 0)) c8)
              · rw [if_neg c8]
                exact v_X8_isMetBy (p_X8_isMetBy_0_5 (f_X5_longOf (d := d + 0)) (xt_1 ht) c0 (f_X5_wideOf (d := d + 0)) c1 (f_X5_twistOf (d := d + 0)) c2 c3 (f_X5_faceOf (d := d + 0)) c6 c7 (f_X5_hemOf (d := d + 0)) c8)
          · rw [if_neg c6]
            exact v_X8_isMetBy (p_X8_isMetBy_0_6 (f_X5_longOf (d := d + 0)) (xt_1 ht) c0 (f_X5_wideOf (d := d + 0)) c1 (f_X5_twistOf (d := d + 0)) c2 c3 (f_X5_faceOf (d := d + 0)) c6)
      · rw [if_neg c2]
        exact v_X8_isMetBy (p_X8_isMetBy_0_7 (f_X5_longOf (d := d + 0)) (xt_1 ht) c0 (f_X5_wideOf (d := d + 0)) c1 (f_X5_twistOf (d := d + 0)) c2)
    · rw [if_neg c1]
      exact v_X8_isMetBy (p_X8_isMetBy_0_8 (f_X5_longOf (d := d + 0)) (xt_1 ht) c0 (f_X5_wideOf (d := d + 0)) c1)
  · rw [if_neg c0]
    exact v_X8_isMetBy (p_X8_isMetBy_0_9 (f_X5_longOf (d := d + 0)) (xt_1 ht) c0)
def F_X0_rightOfTenThousand (h : xm_H) (t : Nat) (l1 : Int32) : Int32 := if (F_X0_canSlip (F_X0_herAct h t l1)) = (0 : Int32) then (if (F_X0_canSlip (F_X0_hisAct h t l1)) = (0 : Int32) then ((100 : Int32) * (100 : Int32)) else ((100 : Int32) * ((100 : Int32) - (h.1 t 8)))) else (if (F_X0_canSlip (F_X0_hisAct h t l1)) = (0 : Int32) then (((100 : Int32) - (h.1 t 7)) * (100 : Int32)) else (((100 : Int32) - (h.1 t 7)) * ((100 : Int32) - (h.1 t 8))))
theorem f_X0_rightOfTenThousand {L : Nat} {xs : Nat → Int32} {d : Nat} {h : xm_H} {t : Nat} (hR : h.2.2 = xm_R0 t) (ht : t = 5 ∨ t = 13) {l1 : Int32} (g0 : (¬ (l1 < (0 : Int32))) → (¬ (Int32.ofNat 6 ≤ l1)) → ¬ (l1 < 0 ∨ 6 ≤ l1.toNatClampNeg)) (g1 : ((F_X0_canSlip (F_X0_herAct h t l1)) = (0 : Int32)) → (¬ (l1 < (0 : Int32))) → (¬ (Int32.ofNat 6 ≤ l1)) → ¬ (l1 < 0 ∨ 6 ≤ l1.toNatClampNeg)) (g2 : (¬ ((F_X0_canSlip (F_X0_herAct h t l1)) = (0 : Int32))) → (¬ (l1 < (0 : Int32))) → (¬ (Int32.ofNat 6 ≤ l1)) → ¬ (l1 < 0 ∨ 6 ≤ l1.toNatClampNeg)) : xm_V (xm_X0 L xs) xm_P (d + 2) 134 [.ref t, .int l1] h (some (.int (F_X0_rightOfTenThousand h t l1))) h := by
  unfold F_X0_rightOfTenThousand
  by_cases c0 : (F_X0_canSlip (F_X0_herAct h t l1)) = (0 : Int32)
  · rw [if_pos c0]
    by_cases c1 : (F_X0_canSlip (F_X0_hisAct h t l1)) = (0 : Int32)
    · rw [if_pos c1]
      exact v_X0_rightOfTenThousand (p_X0_rightOfTenThousand_0_0 (f_X0_herAct (d := d + 0) hR ht (g0)) (xt_0 ht) (f_X0_canSlip (d := d + 0)) c0 (f_X0_hisAct (d := d + 0) hR ht (g1 c0)) (f_X0_canSlip (d := d + 0)) c1)
    · rw [if_neg c1]
      exact v_X0_rightOfTenThousand (p_X0_rightOfTenThousand_0_1 (f_X0_herAct (d := d + 0) hR ht (g0)) (xt_0 ht) (f_X0_canSlip (d := d + 0)) c0 (f_X0_hisAct (d := d + 0) hR ht (g1 c0)) (f_X0_canSlip (d := d + 0)) c1)
  · rw [if_neg c0]
    by_cases c2 : (F_X0_canSlip (F_X0_hisAct h t l1)) = (0 : Int32)
    · rw [if_pos c2]
      exact v_X0_rightOfTenThousand (p_X0_rightOfTenThousand_0_2 (f_X0_herAct (d := d + 0) hR ht (g0)) (xt_0 ht) (f_X0_canSlip (d := d + 0)) c0 (f_X0_hisAct (d := d + 0) hR ht (g2 c0)) (f_X0_canSlip (d := d + 0)) c2)
    · rw [if_neg c2]
      exact v_X0_rightOfTenThousand (p_X0_rightOfTenThousand_0_3 (f_X0_herAct (d := d + 0) hR ht (g0)) (xt_0 ht) (f_X0_canSlip (d := d + 0)) c0 (f_X0_hisAct (d := d + 0) hR ht (g2 c0)) (f_X0_canSlip (d := d + 0)) c2)
def F_X0_twistsOfTenThousand (h : xm_H) (t : Nat) (l1 : Int32) : Int32 := if (F_X0_canSlip (F_X0_herAct h t l1)) = (0 : Int32) then (0 : Int32) else (if (F_X0_canSlip (F_X0_hisAct h t l1)) = (0 : Int32) then (0 : Int32) else (if (F_X0_herAct h t l1) = (F_X0_hisAct h t l1) then (((h.1 t 7) * ((100 : Int32) - (h.1 t 8))) + ((h.1 t 8) * ((100 : Int32) - (h.1 t 7)))) else ((10000 : Int32) - (((h.1 t 7) * ((100 : Int32) - (h.1 t 8))) + ((h.1 t 8) * ((100 : Int32) - (h.1 t 7)))))))
theorem f_X0_twistsOfTenThousand {L : Nat} {xs : Nat → Int32} {d : Nat} {h : xm_H} {t : Nat} (hR : h.2.2 = xm_R0 t) (ht : t = 5 ∨ t = 13) {l1 : Int32} (g0 : (¬ (l1 < (0 : Int32))) → (¬ (Int32.ofNat 6 ≤ l1)) → ¬ (l1 < 0 ∨ 6 ≤ l1.toNatClampNeg)) (g1 : (¬ ((F_X0_canSlip (F_X0_herAct h t l1)) = (0 : Int32))) → (¬ (l1 < (0 : Int32))) → (¬ (Int32.ofNat 6 ≤ l1)) → ¬ (l1 < 0 ∨ 6 ≤ l1.toNatClampNeg)) (g2 : (¬ ((F_X0_canSlip (F_X0_herAct h t l1)) = (0 : Int32))) → (¬ ((F_X0_canSlip (F_X0_hisAct h t l1)) = (0 : Int32))) → (¬ (l1 < (0 : Int32))) → (¬ (Int32.ofNat 6 ≤ l1)) → ¬ (l1 < 0 ∨ 6 ≤ l1.toNatClampNeg)) : xm_V (xm_X0 L xs) xm_P (d + 2) 139 [.ref t, .int l1] h (some (.int (F_X0_twistsOfTenThousand h t l1))) h := by
  unfold F_X0_twistsOfTenThousand
  by_cases c0 : (F_X0_canSlip (F_X0_herAct h t l1)) = (0 : Int32)
  · rw [if_pos c0]
    exact v_X0_twistsOfTenThousand (p_X0_twistsOfTenThousand_0_0 (f_X0_herAct (d := d + 0) hR ht (g0)) (xt_0 ht) (f_X0_canSlip (d := d + 0)) c0)
  · rw [if_neg c0]
    by_cases c1 : (F_X0_canSlip (F_X0_hisAct h t l1)) = (0 : Int32)
    · rw [if_pos c1]
      exact v_X0_twistsOfTenThousand (p_X0_twistsOfTenThousand_0_1 (f_X0_herAct (d := d + 0) hR ht (g0)) (xt_0 ht) (f_X0_canSlip (d := d + 0)) c0 (f_X0_hisAct (d := d + 0) hR ht (g1 c0)) (f_X0_canSlip (d := d + 0)) c1)
    · rw [if_neg c1]
      by_cases c2 : (F_X0_herAct h t l1) = (F_X0_hisAct h t l1)
      · rw [if_pos c2]
        exact v_X0_twistsOfTenThousand (p_X0_twistsOfTenThousand_0_2 (f_X0_herAct (d := d + 0) hR ht (g0)) (xt_0 ht) (f_X0_canSlip (d := d + 0)) c0 (f_X0_hisAct (d := d + 0) hR ht (g1 c0)) (f_X0_canSlip (d := d + 0)) c1 (f_X0_herAct (d := d + 0) hR ht (g2 c0 c1)) (f_X0_hisAct (d := d + 0) hR ht (g2 c0 c1)) c2)
      · rw [if_neg c2]
        exact v_X0_twistsOfTenThousand (p_X0_twistsOfTenThousand_0_3 (f_X0_herAct (d := d + 0) hR ht (g0)) (xt_0 ht) (f_X0_canSlip (d := d + 0)) c0 (f_X0_hisAct (d := d + 0) hR ht (g1 c0)) (f_X0_canSlip (d := d + 0)) c1 (f_X0_herAct (d := d + 0) hR ht (g2 c0 c1)) (f_X0_hisAct (d := d + 0) hR ht (g2 c0 c1)) c2)
def F_X10_out (h : xm_H) (t : Nat) (l1 : Int32) : Int32 := if (F_X9_isNone h t) = (0 : Int32) then (if (F_X10_isPart l1) = (0 : Int32) then (-2 : Int32) else (if l1 = (0 : Int32) then (if 0 ≤ (F_X5_twistOf (h.1 3 3)) then (F_X5_twistOf (h.1 3 3)) else 0 - (F_X5_twistOf (h.1 3 3))) else ((if 0 ≤ (F_X5_twistOf (h.1 3 3)) then (F_X5_twistOf (h.1 3 3)) else 0 - (F_X5_twistOf (h.1 3 3))) * (F_X0_secondsOf h t (9 : Int32))))) else (-2 : Int32)
theorem f_X10_out {L : Nat} {xs : Nat → Int32} {d : Nat} {h : xm_H} {t : Nat} (hR : h.2.2 = xm_R0 t) (ht : t = 5 ∨ t = 13) {l1 : Int32} (g0 : ((F_X9_isNone h t) = (0 : Int32)) → (¬ ((F_X10_isPart l1) = (0 : Int32))) → (¬ (l1 = (0 : Int32))) → (¬ ((9 : Int32) < (0 : Int32))) → ((9 : Int32) < Int32.ofNat 12) → ¬ ((9 : Int32) < 0 ∨ 12 ≤ (9 : Int32).toNatClampNeg)) (g1 : ((F_X9_isNone h t) = (0 : Int32)) → (¬ ((F_X10_isPart l1) = (0 : Int32))) → (¬ (l1 = (0 : Int32))) → (¬ ((9 : Int32) < (0 : Int32))) → ((9 : Int32) < Int32.ofNat 12) → ¬ (xm_f_mov (9 : Int32).toNatClampNeg < 0 ∨ 6 ≤ (xm_f_mov (9 : Int32).toNatClampNeg).toNatClampNeg)) : xm_V (xm_X0 L xs) xm_P (d + 2) 144 [.ref 0, .int l1] h (some (.int (F_X10_out h t l1))) h := by
  unfold F_X10_out
  by_cases c0 : (F_X9_isNone h t) = (0 : Int32)
  · rw [if_pos c0]
    by_cases c1 : (F_X10_isPart l1) = (0 : Int32)
    · rw [if_pos c1]
      exact v_X10_out (p_X10_out_0_0 xs_0 (rr_l0_1 hR) (f_X9_isNone (d := d + 0) hR ht) xs_3 c0 (f_X10_isPart (d := d + 0)) c1)
    · rw [if_neg c1]
      by_cases c2 : l1 = (0 : Int32)
      · rw [if_pos c2]
        exact v_X10_out (p_X10_out_0_1 xs_0 (rr_l0_1 hR) (f_X9_isNone (d := d + 0) hR ht) xs_3 c0 (f_X10_isPart (d := d + 0)) c1 (rr_l0_1 hR) xs_3 (f_X5_twistOf (d := d + 0)) c2)
      · rw [if_neg c2]
        exact v_X10_out (p_X10_out_0_2 xs_0 (rr_l0_1 hR) (f_X9_isNone (d := d + 0) hR ht) xs_3 c0 (f_X10_isPart (d := d + 0)) c1 (rr_l0_1 hR) xs_3 (f_X5_twistOf (d := d + 0)) c2 (rr_l0_1 hR) xs_3 (rr_l3_0 hR) (f_X0_secondsOf (d := d + 0) hR ht (g0 c0 c1 c2) (g1 c0 c1 c2)) (xt_0 ht))
  · rw [if_neg c0]
    exact v_X10_out (p_X10_out_0_3 xs_0 (rr_l0_1 hR) (f_X9_isNone (d := d + 0) hR ht) xs_3 c0)
def F_X11_isOfState (l0 : Int32) : Int32 := (F_X11_in l0.toInt64 (0 : Int64) (7 : Int64))
theorem f_X11_isOfState {L : Nat} {xs : Nat → Int32} {d : Nat} {h : xm_H} {l0 : Int32} (g0 : xm_okr 3 (F_X11_in l0.toInt64 (0 : Int64) (7 : Int64)) = true) : xm_V (xm_X0 L xs) xm_P (d + 2) 217 [.int l0] h (some (.int (F_X11_isOfState l0))) h := by
  unfold F_X11_isOfState
  exact v_X11_isOfState (p_X11_isOfState_0_0 (f_X11_in (d := d + 0)) (g0))
def F_X11_firstState (h : xm_H) (t : Nat) : Int32 := (F_X11_state (h.1 83 0) (h.1 83 1) (0 : Int32) (0 : Int32) (0 : Int32))
theorem f_X11_firstState {L : Nat} {xs : Nat → Int32} {d : Nat} {h : xm_H} {t : Nat} (hR : h.2.2 = xm_R0 t) (ht : t = 5 ∨ t = 13) : xm_V (xm_X0 L xs) xm_P (d + 2) 220 [.ref 82] h (some (.int (F_X11_firstState h t))) h := by
  unfold F_X11_firstState
  exact v_X11_firstState (p_X11_firstState_0_0 xs_82 (rr_l82_1 hR) xs_83 (by decide) (by decide) (f_X11_state (d := d + 0)))
def F_X11_fitsIn (h : xm_H) (t : Nat) (l1 : Int32) (l2 : Int32) : Int32 := if h.1 82 16 = (0 : Int32) then (if l2 = (8 : Int32) then (if h.1 82 15 < (F_X11_wideOf l1) then (0 : Int32) else (1 : Int32)) else (if h.1 82 15 < (F_X11_longOf l1) then (0 : Int32) else (1 : Int32))) else (if (2 : Int32) < l2 then (1 : Int32) else (if h.1 83 4 < (F_X11_longOf l1) then (0 : Int32) else (1 : Int32)))
theorem f_X11_fitsIn {L : Nat} {xs : Nat → Int32} {d : Nat} {h : xm_H} {t : Nat} (hR : h.2.2 = xm_R0 t) (ht : t = 5 ∨ t = 13) {l1 : Int32} {l2 : Int32} : xm_V (xm_X0 L xs) xm_P (d + 2) 229 [.ref 82, .int l1, .int l2] h (some (.int (F_X11_fitsIn h t l1 l2))) h := by
  unfold F_X11_fitsIn
  by_cases c0 : h.1 82 16 = (0 : Int32)
  · rw [if_pos c0]
    by_cases c1 : l2 = (8 : Int32)
    · rw [if_pos c1]
      by_cases c2 : h.1 82 15 < (F_X11_wideOf l1)
      · rw [if_pos c2]
        exact v_X11_fitsIn (p_X11_fitsIn_0_0 xs_82 c0 c1 (f_X11_wideOf (d := d + 0)) c2)
      · rw [if_neg c2]
        exact v_X11_fitsIn (p_X11_fitsIn_0_1 xs_82 c0 c1 (f_X11_wideOf (d := d + 0)) c2)
    · rw [if_neg c1]
      by_cases c3 : h.1 82 15 < (F_X11_longOf l1)
      · rw [if_pos c3]
        exact v_X11_fitsIn (p_X11_fitsIn_0_2 xs_82 c0 c1 (f_X11_longOf (d := d + 0)) c3)
      · rw [if_neg c3]
        exact v_X11_fitsIn (p_X11_fitsIn_0_3 xs_82 c0 c1 (f_X11_longOf (d := d + 0)) c3)
  · rw [if_neg c0]
    by_cases c4 : (2 : Int32) < l2
    · rw [if_pos c4]
      exact v_X11_fitsIn (p_X11_fitsIn_0_4 xs_82 c0 c4)
    · rw [if_neg c4]
      by_cases c5 : h.1 83 4 < (F_X11_longOf l1)
      · rw [if_pos c5]
        exact v_X11_fitsIn (p_X11_fitsIn_0_5 xs_82 c0 c4 (f_X11_longOf (d := d + 0)) (rr_l82_1 hR) xs_83 (by decide) c5)
      · rw [if_neg c5]
        exact v_X11_fitsIn (p_X11_fitsIn_0_6 xs_82 c0 c4 (f_X11_longOf (d := d + 0)) (rr_l82_1 hR) xs_83 (by decide) c5)
def F_X11_secondsOf (h : xm_H) (t : Nat) (l1 : Int32) : Int32 := (h.1 83 (((5 : Int32) + (F_X11_movingOf l1)).toNatClampNeg))
theorem f_X11_secondsOf {L : Nat} {xs : Nat → Int32} {d : Nat} {h : xm_H} {t : Nat} (hR : h.2.2 = xm_R0 t) (ht : t = 5 ∨ t = 13) {l1 : Int32} (g0 : ¬ ((5 : Int32) + (F_X11_movingOf l1) < 0 ∨ 110 ≤ ((5 : Int32) + (F_X11_movingOf l1)).toNatClampNeg)) : xm_V (xm_X0 L xs) xm_P (d + 2) 234 [.ref 82, .int l1] h (some (.int (F_X11_secondsOf h t l1))) h := by
  unfold F_X11_secondsOf
  exact v_X11_secondsOf (p_X11_secondsOf_0_0 xs_82 (rr_l82_1 hR) (f_X11_movingOf (d := d + 0)) xs_83 (g0))
def F_X11_layersOf (h : xm_H) (t : Nat) (l1 : Int32) : Int32 := (((h.1 83 0) * (h.1 83 1)) / ((F_X11_longOf l1) * (F_X11_wideOf l1)))
theorem f_X11_layersOf {L : Nat} {xs : Nat → Int32} {d : Nat} {h : xm_H} {t : Nat} (hR : h.2.2 = xm_R0 t) (ht : t = 5 ∨ t = 13) {l1 : Int32} (g0 : ¬ ((F_X11_longOf l1) * (F_X11_wideOf l1)) = 0) : xm_V (xm_X0 L xs) xm_P (d + 2) 237 [.ref 82, .int l1] h (some (.int (F_X11_layersOf h t l1))) h := by
  unfold F_X11_layersOf
  exact v_X11_layersOf (p_X11_layersOf_0_0 xs_82 (rr_l82_1 hR) xs_83 (by decide) (by decide) (f_X11_longOf (d := d + 0)) (f_X11_wideOf (d := d + 0)) (g0))
def F_X11_isMove (l0 : Int64) : Int32 := (F_X11_in l0 (0 : Int64) (9 : Int64))
theorem f_X11_isMove {L : Nat} {xs : Nat → Int32} {d : Nat} {h : xm_H} {l0 : Int64} (g0 : xm_okr 3 (F_X11_in l0 (0 : Int64) (9 : Int64)) = true) : xm_V (xm_X0 L xs) xm_P (d + 2) 239 [.long l0] h (some (.int (F_X11_isMove l0))) h := by
  unfold F_X11_isMove
  exact v_X11_isMove (p_X11_isMove_0_0 (f_X11_in (d := d + 0)) (g0))
def F_X11_isCall (h : xm_H) (t : Nat) (l1 : Int64) : Int32 := (F_X11_in l1 (0 : Int64) (((h.1 83 19) - (1 : Int32)).toInt64))
theorem f_X11_isCall {L : Nat} {xs : Nat → Int32} {d : Nat} {h : xm_H} {t : Nat} (hR : h.2.2 = xm_R0 t) (ht : t = 5 ∨ t = 13) {l1 : Int64} (g0 : xm_okr 3 (F_X11_in l1 (0 : Int64) (((h.1 83 19) - (1 : Int32)).toInt64)) = true) : xm_V (xm_X0 L xs) xm_P (d + 2) 244 [.ref 82, .long l1] h (some (.int (F_X11_isCall h t l1))) h := by
  unfold F_X11_isCall
  exact v_X11_isCall (p_X11_isCall_0_0 xs_82 (rr_l82_1 hR) xs_83 (by decide) (f_X11_in (d := d + 0)) (g0))
def F_X11_led (h : xm_H) (t : Nat) (l1 : Int32) : Int32 := if (F_X11_isLinen h t) = (0 : Int32) then (-2 : Int32) else (if (F_X11_in l1.toInt64 (0 : Int64) (((h.1 83 23) - (1 : Int32)).toInt64)) = (0 : Int32) then (-1 : Int32) else (h.1 83 (((50 : Int32) + l1).toNatClampNeg)))
theorem f_X11_led {L : Nat} {xs : Nat → Int32} {d : Nat} {h : xm_H} {t : Nat} (hR : h.2.2 = xm_R0 t) (ht : t = 5 ∨ t = 13) {l1 : Int32} (g0 : (¬ ((F_X11_isLinen h t) = (0 : Int32))) → (¬ ((F_X11_in l1.toInt64 (0 : Int64) (((h.1 83 23) - (1 : Int32)).toInt64)) = (0 : Int32))) → ¬ ((50 : Int32) + l1 < 0 ∨ 110 ≤ ((50 : Int32) + l1).toNatClampNeg)) : xm_V (xm_X0 L xs) xm_P (d + 2) 249 [.ref 82, .int l1] h (some (.int (F_X11_led h t l1))) h := by
  unfold F_X11_led
  by_cases c0 : (F_X11_isLinen h t) = (0 : Int32)
  · rw [if_pos c0]
    exact v_X11_led (p_X11_led_0_0 (f_X11_isLinen (d := d + 0) hR ht) xs_82 c0)
  · rw [if_neg c0]
    by_cases c1 : (F_X11_in l1.toInt64 (0 : Int64) (((h.1 83 23) - (1 : Int32)).toInt64)) = (0 : Int32)
    · rw [if_pos c1]
      exact v_X11_led (p_X11_led_0_1 (f_X11_isLinen (d := d + 0) hR ht) xs_82 c0 (rr_l82_1 hR) xs_83 (by decide) (f_X11_in (d := d + 0)) c1)
    · rw [if_neg c1]
      exact v_X11_led (p_X11_led_0_2 (f_X11_isLinen (d := d + 0) hR ht) xs_82 c0 (rr_l82_1 hR) xs_83 (by decide) (f_X11_in (d := d + 0)) c1 (rr_l82_1 hR) xs_83 (g0 c0 c1))
def F_X11_isSlot (l0 : Int32) : Int32 := (F_X11_in l0.toInt64 (0 : Int64) (3 : Int64))
theorem f_X11_isSlot {L : Nat} {xs : Nat → Int32} {d : Nat} {h : xm_H} {l0 : Int32} (g0 : xm_okr 3 (F_X11_in l0.toInt64 (0 : Int64) (3 : Int64)) = true) : xm_V (xm_X0 L xs) xm_P (d + 2) 253 [.int l0] h (some (.int (F_X11_isSlot l0))) h := by
  unfold F_X11_isSlot
  exact v_X11_isSlot (p_X11_isSlot_0_0 (f_X11_in (d := d + 0)) (g0))
def F_X11_canWish (h : xm_H) (t : Nat) : Int32 := if (F_X11_isLinen h t) = (0 : Int32) then (0 : Int32) else (if (F_X11_isWished h t) = (0 : Int32) then (0 : Int32) else (1 : Int32))
theorem f_X11_canWish {L : Nat} {xs : Nat → Int32} {d : Nat} {h : xm_H} {t : Nat} (hR : h.2.2 = xm_R0 t) (ht : t = 5 ∨ t = 13) : xm_V (xm_X0 L xs) xm_P (d + 2) 258 [.ref 82] h (some (.int (F_X11_canWish h t))) h := by
  unfold F_X11_canWish
  by_cases c0 : (F_X11_isLinen h t) = (0 : Int32)
  · rw [if_pos c0]
    exact v_X11_canWish (p_X11_canWish_0_0 (f_X11_isLinen (d := d + 0) hR ht) xs_82 c0)
  · rw [if_neg c0]
    by_cases c1 : (F_X11_isWished h t) = (0 : Int32)
    · rw [if_pos c1]
      exact v_X11_canWish (p_X11_canWish_0_1 (f_X11_isLinen (d := d + 0) hR ht) xs_82 c0 (f_X11_isWished (d := d + 0) hR ht) c1)
    · rw [if_neg c1]
      exact v_X11_canWish (p_X11_canWish_0_2 (f_X11_isLinen (d := d + 0) hR ht) xs_82 c0 (f_X11_isWished (d := d + 0) hR ht) c1)
def F_X11_isAsWished (h : xm_H) (t : Nat) (l1 : Int32) : Int32 := if (F_X11_twistOf l1) = (0 : Int32) then (if (F_X11_longOf l1) = h.1 83 14 then (if (F_X11_wideOf l1) = h.1 83 15 then (if h.1 83 16 = (2 : Int32) then (if h.1 83 17 = (5 : Int32) then (1 : Int32) else (if h.1 83 17 = (F_X11_hemOf l1) then (1 : Int32) else (0 : Int32))) else (if h.1 83 16 = (F_X11_faceOf l1) then (if h.1 83 17 = (5 : Int32) then (1 : Int32) else (if h.1 83 17 = (F_X11_hemOf l1) then (1 : Int32) else (0 : Int32))) else (0 : Int32))) else (0 : Int32)) else (0 : Int32)) else (0 : Int32)
theorem f_X11_isAsWished {L : Nat} {xs : Nat → Int32} {d : Nat} {h : xm_H} {t : Nat} (hR : h.2.2 = xm_R0 t) (ht : t = 5 ∨ t = 13) {l1 : Int32} : xm_V (xm_X0 L xs) xm_P (d + 2) 267 [.ref 82, .int l1] h (some (.int (F_X11_isAsWished h t l1))) h := by
  unfold F_X11_isAsWished
  by_cases c0 : (F_X11_twistOf l1) = (0 : Int32)
  · rw [if_pos c0]
    by_cases c1 : (F_X11_longOf l1) = h.1 83 14
    · rw [if_pos c1]
      by_cases c2 : (F_X11_wideOf l1) = h.1 83 15
      · rw [if_pos c2]
        by_cases c3 : h.1 83 16 = (2 : Int32)
        · rw [if_pos c3]
          by_cases c4 : h.1 83 17 = (5 : Int32)
          · rw [if_pos c4]
            exact v_X11_isAsWished (p_X11_isAsWished_0_0 (f_X11_twistOf (d := d + 0)) c0 (f_X11_longOf (d := d + 0)) xs_82 (rr_l82_1 hR) xs_83 (by decide) c1 (f_X11_wideOf (d := d + 0)) (rr_l82_1 hR) xs_83 (by decide) c2 (by decide) c3 (by decide) c4)
          · rw [if_neg c4]
            by_cases c5 : h.1 83 17 = (F_X11_hemOf l1)
            · rw [if_pos c5]
              exact v_X11_isAsWished (p_X11_isAsWished_0_1 (f_X11_twistOf (d := d + 0)) c0 (f_X11_longOf (d := d + 0)) xs_82 (rr_l82_1 hR) xs_83 (by decide) c1 (f_X11_wideOf (d := d + 0)) (rr_l82_1 hR) xs_83 (by decide) c2 (by decide) c3 (by decide) c4 (f_X11_hemOf (d := d + 0)) c5)
            · rw [if_neg c5]
              exact v_X11_isAsWished (p_X11_isAsWished_0_2 (f_X11_twistOf (d := d + 0)) c0 (f_X11_longOf (d := d + 0)) xs_82 (rr_l82_1 hR) xs_83 (by decide) c1 (f_X11_wideOf (d := d + 0)) (rr_l82_1 hR) xs_83 (by decide) c2 (by decide) c3 (by decide) c4 (f_X11_hemOf (d := d + 0)) c5)
        · rw [if_neg c3]
          by_cases c6 : h.1 83 16 = (F_X11_faceOf l1)
          · rw [if_pos c6]
            by_cases c7 : h.1 83 17 = (5 : Int32)
            · rw [if_pos c7]
              exact v_X11_isAsWished (p_X11_isAsWished_0_3 (f_X11_twistOf (d := d + 0)) c0 (f_X11_longOf (d := d + 0)) xs_82 (rr_l82_1 hR) xs_83 (by decide) c1 (f_X11_wideOf (d := d + 0)) (rr_l82_1 hR) xs_83 (by decide) c2 (by decide) c3 (f_X11_faceOf (d := d + 0)) c6 (rr_l82_1 hR) xs_83 (by decide) c7)
            · rw [if_neg c7]
              by_cases c8 : h.1 83 17 = (F_X11_hemOf l1)
              · rw [if_pos c8]
                exact v_X11_isAsWished (p_X11_isAsWished_0_4 (f_X11_twistOf (d := d + 0)) c0 (f_X11_longOf (d := d + 0)) xs_82 (rr_l82_1 hR) xs_83 (by decide) c1 (f_X11_wideOf (d := d + 0)) (rr_l82_1 hR) xs_83 (by decide) c2 (by decide) c3 (f_X11_faceOf (d := d + 0)) c6 (rr_l82_1 hR) xs_83 (by decide) c7 (f_X11_hemOf (d := d + 0)) c8)
              · rw [if_neg c8]
                exact v_X11_isAsWished (p_X11_isAsWished_0_5 (f_X11_twistOf (d := d + 0)) c0 (f_X11_longOf (d := d + 0)) xs_82 (rr_l82_1 hR) xs_83 (by decide) c1 (f_X11_wideOf (d := d + 0)) (rr_l82_1 hR) xs_83 (by decide) c2 (by decide) c3 (f_X11_faceOf (d := d + 0)) c6 (rr_l82_1 hR) xs_83 (by decide) c7 (f_X11_hemOf (d := d + 0)) c8)
          · rw [if_neg c6]
            exact v_X11_isAsWished (p_X11_isAsWished_0_6 (f_X11_twistOf (d := d + 0)) c0 (f_X11_longOf (d := d + 0)) xs_82 (rr_l82_1 hR) xs_83 (by decide) c1 (f_X11_wideOf (d := d + 0)) (rr_l82_1 hR) xs_83 (by decide) c2 (by decide) c3 (f_X11_faceOf (d := d + 0)) c6)
      · rw [if_neg c2]
        exact v_X11_isAsWished (p_X11_isAsWished_0_7 (f_X11_twistOf (d := d + 0)) c0 (f_X11_longOf (d := d + 0)) xs_82 (rr_l82_1 hR) xs_83 (by decide) c1 (f_X11_wideOf (d := d + 0)) (rr_l82_1 hR) xs_83 (by decide) c2)
    · rw [if_neg c1]
      exact v_X11_isAsWished (p_X11_isAsWished_0_8 (f_X11_twistOf (d := d + 0)) c0 (f_X11_longOf (d := d + 0)) xs_82 (rr_l82_1 hR) xs_83 (by decide) c1)
  · rw [if_neg c0]
    exact v_X11_isAsWished (p_X11_isAsWished_0_9 (f_X11_twistOf (d := d + 0)) c0)
def F_X11_rightOf (h : xm_H) (t : Nat) (l1 : Int32) (l2 : Int32) : Int32 := if (F_X11_slips l1) = (0 : Int32) then (100 : Int32) else ((100 : Int32) - (h.1 83 (((11 : Int32) + l2).toNatClampNeg)))
theorem f_X11_rightOf {L : Nat} {xs : Nat → Int32} {d : Nat} {h : xm_H} {t : Nat} (hR : h.2.2 = xm_R0 t) (ht : t = 5 ∨ t = 13) {l1 : Int32} {l2 : Int32} (g0 : (¬ ((F_X11_slips l1) = (0 : Int32))) → ¬ ((11 : Int32) + l2 < 0 ∨ 110 ≤ ((11 : Int32) + l2).toNatClampNeg)) : xm_V (xm_X0 L xs) xm_P (d + 2) 295 [.ref 82, .int l1, .int l2] h (some (.int (F_X11_rightOf h t l1 l2))) h := by
  unfold F_X11_rightOf
  by_cases c0 : (F_X11_slips l1) = (0 : Int32)
  · rw [if_pos c0]
    exact v_X11_rightOf (p_X11_rightOf_0_0 (f_X11_slips (d := d + 0)) c0)
  · rw [if_neg c0]
    exact v_X11_rightOf (p_X11_rightOf_0_1 (f_X11_slips (d := d + 0)) c0 xs_82 (rr_l82_1 hR) xs_83 (g0 c0))
def F_X11_twistsOf (h : xm_H) (t : Nat) (l1 : Int32) : Int32 := if (F_X11_slips (F_X11_her h t l1)) = (0 : Int32) then (0 : Int32) else (if (F_X11_slips (F_X11_his h t l1)) = (0 : Int32) then (0 : Int32) else (if (F_X11_her h t l1) = (F_X11_his h t l1) then (((h.1 83 11) * ((100 : Int32) - (h.1 83 12))) + ((h.1 83 12) * ((100 : Int32) - (h.1 83 11)))) else ((10000 : Int32) - (((h.1 83 11) * ((100 : Int32) - (h.1 83 12))) + ((h.1 83 12) * ((100 : Int32) - (h.1 83 11)))))))
theorem f_X11_twistsOf {L : Nat} {xs : Nat → Int32} {d : Nat} {h : xm_H} {t : Nat} (hR : h.2.2 = xm_R0 t) (ht : t = 5 ∨ t = 13) {l1 : Int32} (g0 : ¬ ((24 : Int32) + ((2 : Int32) * l1) < 0 ∨ 110 ≤ ((24 : Int32) + ((2 : Int32) * l1)).toNatClampNeg)) (g1 : (¬ ((F_X11_slips (F_X11_her h t l1)) = (0 : Int32))) → ¬ (((24 : Int32) + ((2 : Int32) * l1)) + (1 : Int32) < 0 ∨ 110 ≤ (((24 : Int32) + ((2 : Int32) * l1)) + (1 : Int32)).toNatClampNeg)) (g2 : (¬ ((F_X11_slips (F_X11_her h t l1)) = (0 : Int32))) → (¬ ((F_X11_slips (F_X11_his h t l1)) = (0 : Int32))) → ¬ ((24 : Int32) + ((2 : Int32) * l1) < 0 ∨ 110 ≤ ((24 : Int32) + ((2 : Int32) * l1)).toNatClampNeg)) (g3 : (¬ ((F_X11_slips (F_X11_her h t l1)) = (0 : Int32))) → (¬ ((F_X11_slips (F_X11_his h t l1)) = (0 : Int32))) → ¬ (((24 : Int32) + ((2 : Int32) * l1)) + (1 : Int32) < 0 ∨ 110 ≤ (((24 : Int32) + ((2 : Int32) * l1)) + (1 : Int32)).toNatClampNeg)) : xm_V (xm_X0 L xs) xm_P (d + 2) 300 [.ref 82, .int l1] h (some (.int (F_X11_twistsOf h t l1))) h := by
  unfold F_X11_twistsOf
  by_cases c0 : (F_X11_slips (F_X11_her h t l1)) = (0 : Int32)
  · rw [if_pos c0]
    exact v_X11_twistsOf (p_X11_twistsOf_0_0 (f_X11_her (d := d + 0) hR ht (g0)) xs_82 (f_X11_slips (d := d + 0)) c0)
  · rw [if_neg c0]
    by_cases c1 : (F_X11_slips (F_X11_his h t l1)) = (0 : Int32)
    · rw [if_pos c1]
      exact v_X11_twistsOf (p_X11_twistsOf_0_1 (f_X11_her (d := d + 0) hR ht (g0)) xs_82 (f_X11_slips (d := d + 0)) c0 (f_X11_his (d := d + 0) hR ht (g1 c0)) (f_X11_slips (d := d + 0)) c1)
    · rw [if_neg c1]
      by_cases c2 : (F_X11_her h t l1) = (F_X11_his h t l1)
      · rw [if_pos c2]
        exact v_X11_twistsOf (p_X11_twistsOf_0_2 (f_X11_her (d := d + 0) hR ht (g0)) xs_82 (f_X11_slips (d := d + 0)) c0 (f_X11_his (d := d + 0) hR ht (g1 c0)) (f_X11_slips (d := d + 0)) c1 (rr_l82_1 hR) xs_83 (by decide) (by decide) (f_X11_her (d := d + 0) hR ht (g2 c0 c1)) (f_X11_his (d := d + 0) hR ht (g3 c0 c1)) c2)
      · rw [if_neg c2]
        exact v_X11_twistsOf (p_X11_twistsOf_0_3 (f_X11_her (d := d + 0) hR ht (g0)) xs_82 (f_X11_slips (d := d + 0)) c0 (f_X11_his (d := d + 0) hR ht (g1 c0)) (f_X11_slips (d := d + 0)) c1 (rr_l82_1 hR) xs_83 (by decide) (by decide) (f_X11_her (d := d + 0) hR ht (g2 c0 c1)) (f_X11_his (d := d + 0) hR ht (g3 c0 c1)) c2)
def F_X11_isPair (h : xm_H) (t : Nat) (l1 : Int32) : Int32 := (F_X11_in l1.toInt64 (0 : Int64) (((h.1 83 20) - (1 : Int32)).toInt64))
theorem f_X11_isPair {L : Nat} {xs : Nat → Int32} {d : Nat} {h : xm_H} {t : Nat} (hR : h.2.2 = xm_R0 t) (ht : t = 5 ∨ t = 13) {l1 : Int32} (g0 : xm_okr 3 (F_X11_in l1.toInt64 (0 : Int64) (((h.1 83 20) - (1 : Int32)).toInt64)) = true) : xm_V (xm_X0 L xs) xm_P (d + 2) 311 [.ref 82, .int l1] h (some (.int (F_X11_isPair h t l1))) h := by
  unfold F_X11_isPair
  exact v_X11_isPair (p_X11_isPair_0_0 xs_82 (rr_l82_1 hR) xs_83 (by decide) (f_X11_in (d := d + 0)) (g0))
def F_X11_isSeed (l0 : Int32) : Int32 := (F_X11_in l0.toInt64 (0 : Int64) (2000000000 : Int64))
theorem f_X11_isSeed {L : Nat} {xs : Nat → Int32} {d : Nat} {h : xm_H} {l0 : Int32} (g0 : xm_okr 3 (F_X11_in l0.toInt64 (0 : Int64) (2000000000 : Int64)) = true) : xm_V (xm_X0 L xs) xm_P (d + 2) 322 [.int l0] h (some (.int (F_X11_isSeed l0))) h := by
  unfold F_X11_isSeed
  exact v_X11_isSeed (p_X11_isSeed_0_0 (f_X11_in (d := d + 0)) (g0))
def F_X0_thicknessOf (h : xm_H) (t : Nat) (l1 : Int32) : Int32 := ((F_X0_layersOf h t l1) * (h.1 t 3))
theorem f_X0_thicknessOf {L : Nat} {xs : Nat → Int32} {d : Nat} {h : xm_H} {t : Nat} (hR : h.2.2 = xm_R0 t) (ht : t = 5 ∨ t = 13) {l1 : Int32} (g0 : ((0 : Int32) < (F_X5_longOf l1) * (F_X5_wideOf l1)) → ¬ ((F_X5_longOf l1) * (F_X5_wideOf l1)) = 0) : xm_V (xm_X0 L xs) xm_P (d + 3) 44 [.ref t, .int l1] h (some (.int (F_X0_thicknessOf h t l1))) h := by
  unfold F_X0_thicknessOf
  exact v_X0_thicknessOf (p_X0_thicknessOf_0_0 (f_X0_layersOf (d := d + 0) hR ht (g0)) (xt_0 ht))
def F_X10_can (h : xm_H) (t : Nat) (l1 : Int32) : Int32 := if (F_X9_isNone h t) = (0 : Int32) then (if (F_X10_isMove l1) = (0 : Int32) then (-2 : Int32) else (if (F_X5_possible (h.1 3 3) l1 (h.1 t 4)) = (0 : Int32) then (0 : Int32) else (1 : Int32))) else (-2 : Int32)
theorem f_X10_can {L : Nat} {xs : Nat → Int32} {d : Nat} {h : xm_H} {t : Nat} (hR : h.2.2 = xm_R0 t) (ht : t = 5 ∨ t = 13) {l1 : Int32} : xm_V (xm_X0 L xs) xm_P (d + 3) 45 [.ref 0, .int l1] h (some (.int (F_X10_can h t l1))) h := by
  unfold F_X10_can
  by_cases c0 : (F_X9_isNone h t) = (0 : Int32)
  · rw [if_pos c0]
    by_cases c1 : (F_X10_isMove l1) = (0 : Int32)
    · rw [if_pos c1]
      exact v_X10_can (p_X10_can_0_0 xs_0 (rr_l0_1 hR) (f_X9_isNone (d := d + 1) hR ht) xs_3 c0 (f_X10_isMove (d := d + 1)) c1)
    · rw [if_neg c1]
      by_cases c2 : (F_X5_possible (h.1 3 3) l1 (h.1 t 4)) = (0 : Int32)
      · rw [if_pos c2]
        exact v_X10_can (p_X10_can_0_1 xs_0 (rr_l0_1 hR) (f_X9_isNone (d := d + 1) hR ht) xs_3 c0 (f_X10_isMove (d := d + 1)) c1 (rr_l0_1 hR) xs_3 (rr_l3_0 hR) (xt_0 ht) (f_X5_possible (d := d + 0)) c2)
      · rw [if_neg c2]
        exact v_X10_can (p_X10_can_0_2 xs_0 (rr_l0_1 hR) (f_X9_isNone (d := d + 1) hR ht) xs_3 c0 (f_X10_isMove (d := d + 1)) c1 (rr_l0_1 hR) xs_3 (rr_l3_0 hR) (xt_0 ht) (f_X5_possible (d := d + 0)) c2)
  · rw [if_neg c0]
    exact v_X10_can (p_X10_can_0_3 xs_0 (rr_l0_1 hR) (f_X9_isNone (d := d + 1) hR ht) xs_3 c0)
def F_X10_means (h : xm_H) (t : Nat) (l1 : Int32) : Int32 := if (F_X10_isCall h t l1) = (0 : Int32) then (-2 : Int32) else (F_X0_actOf h t l1)
theorem f_X10_means {L : Nat} {xs : Nat → Int32} {d : Nat} {h : xm_H} {t : Nat} (hR : h.2.2 = xm_R0 t) (ht : t = 5 ∨ t = 13) {l1 : Int32} (g0 : (¬ ((F_X10_isCall h t l1) = (0 : Int32))) → (¬ (l1 < (0 : Int32))) → (¬ (Int32.ofNat 6 ≤ l1)) → ¬ (l1 < 0 ∨ 6 ≤ l1.toNatClampNeg)) (g1 : (¬ ((F_X10_isCall h t l1) = (0 : Int32))) → (¬ ((F_X0_herAct h t l1) < (0 : Int32))) → (¬ ((4 : Int32) ≤ (F_X0_herAct h t l1))) → (¬ ((F_X0_hisAct h t l1) < (0 : Int32))) → ((F_X0_hisAct h t l1) < (4 : Int32)) → ¬ (((F_X0_herAct h t l1) * (4 : Int32)) + (F_X0_hisAct h t l1) < 0 ∨ 16 ≤ (((F_X0_herAct h t l1) * (4 : Int32)) + (F_X0_hisAct h t l1)).toNatClampNeg)) : xm_V (xm_X0 L xs) xm_P (d + 3) 123 [.ref 0, .int l1] h (some (.int (F_X10_means h t l1))) h := by
  unfold F_X10_means
  by_cases c0 : (F_X10_isCall h t l1) = (0 : Int32)
  · rw [if_pos c0]
    exact v_X10_means (p_X10_means_0_0 (f_X10_isCall (d := d + 1) hR ht) xs_0 c0)
  · rw [if_neg c0]
    exact v_X10_means (p_X10_means_0_1 (f_X10_isCall (d := d + 1) hR ht) xs_0 c0 (rr_l0_1 hR) xs_3 (rr_l3_0 hR) (f_X0_actOf (d := d + 0) hR ht (g0 c0) (g1 c0)) (xt_0 ht))
theorem w_X11_moved_0_0 {X : xm_X} {P : List xm_M} {d : Nat} {h : xm_H} {l0 : Nat} {l1 : Int32} {l2 : Int32} {h0 : xm_H} {r0 : Int32} {h1 : xm_H} {r1 : Int32} {h2 : xm_H} {r2 : Int32} {h3 : xm_H} {r3 : Int32} {h4 : xm_H} {r4 : Int32} (q0 : xm_V X P d 224 [.int l1] h (some (.int r0)) h0) (q1 : xm_V X P d 225 [.int l1] h0 (some (.int r1)) h1) (q2 : xm_V X P d 226 [.int l1] h1 (some (.int r2)) h2) (q3 : xm_V X P d 227 [.int l1] h2 (some (.int r3)) h3) (q4 : xm_V X P d 228 [.int l1] h3 (some (.int r4)) h4) (q5 : l2 = (9 : Int32)) (q6 : r4 = (0 : Int32)) : xm_E X P d co_X11_moved 0 [some (.ref l0), some (.int l1), some (.int l2), none, none, none, none, none] [] h (some (.int (-1 : Int32))) h4 := by
  refine xm_E_s r_X11_moved_0 rfl rfl ?_
  refine xm_E_cs [.int l1] [] r_X11_moved_1 rfl rfl rfl (Nat.le_of_ble_eq_true rfl) rfl q0 ?_
  refine xm_E_s (ls1 := [some (.ref l0), some (.int l1), some (.int l2), some (.int r0), none, none, none, none]) r_X11_moved_2 rfl rfl ?_
  refine xm_E_s r_X11_moved_3 rfl rfl ?_
  refine xm_E_cs [.int l1] [] r_X11_moved_4 rfl rfl rfl (Nat.le_of_ble_eq_true rfl) rfl q1 ?_
  refine xm_E_s (ls1 := [some (.ref l0), some (.int l1), some (.int l2), some (.int r0), some (.int r1), none, none, none]) r_X11_moved_5 rfl rfl ?_
  refine xm_E_s r_X11_moved_6 rfl rfl ?_
  refine xm_E_cs [.int l1] [] r_X11_moved_7 rfl rfl rfl (Nat.le_of_ble_eq_true rfl) rfl q2 ?_
  refine xm_E_s (ls1 := [some (.ref l0), some (.int l1), some (.int l2), some (.int r0), some (.int r1), some (.int r2), none, none]) r_X11_moved_8 rfl rfl ?_
  refine xm_E_s r_X11_moved_9 rfl rfl ?_
  refine xm_E_cs [.int l1] [] r_X11_moved_10 rfl rfl rfl (Nat.le_of_ble_eq_true rfl) rfl q3 ?_
  refine xm_E_s (ls1 := [some (.ref l0), some (.int l1), some (.int l2), some (.int r0), some (.int r1), some (.int r2), some (.int r3), none]) r_X11_moved_11 rfl rfl ?_
  refine xm_E_s r_X11_moved_12 rfl rfl ?_
  refine xm_E_cs [.int l1] [] r_X11_moved_13 rfl rfl rfl (Nat.le_of_ble_eq_true rfl) rfl q4 ?_
  refine xm_E_s (ls1 := [some (.ref l0), some (.int l1), some (.int l2), some (.int r0), some (.int r1), some (.int r2), some (.int r3), some (.int r4)]) r_X11_moved_14 rfl rfl ?_
  refine xm_E_s r_X11_moved_15 rfl rfl ?_
  refine xm_E_s r_X11_moved_16 rfl rfl ?_
  refine xm_E_s r_X11_moved_17 rfl rfl ?_
  refine xm_E_t q5 ?_
  refine xm_E_s r_X11_moved_18 rfl rfl ?_
  refine xm_E_s r_X11_moved_19 rfl rfl ?_
  refine xm_E_t q6 ?_
  refine xm_E_s r_X11_moved_20 rfl rfl ?_
  refine xm_E_s r_X11_moved_21 rfl rfl ?_
  exact xm_E_iret r_X11_moved_36 rfl rfl
theorem w_X11_moved_0_1 {X : xm_X} {P : List xm_M} {d : Nat} {h : xm_H} {l0 : Nat} {l1 : Int32} {l2 : Int32} {h0 : xm_H} {r0 : Int32} {h1 : xm_H} {r1 : Int32} {h2 : xm_H} {r2 : Int32} {h3 : xm_H} {r3 : Int32} {h4 : xm_H} {r4 : Int32} {h5 : xm_H} {r5 : Int32} (q0 : xm_V X P d 224 [.int l1] h (some (.int r0)) h0) (q1 : xm_V X P d 225 [.int l1] h0 (some (.int r1)) h1) (q2 : xm_V X P d 226 [.int l1] h1 (some (.int r2)) h2) (q3 : xm_V X P d 227 [.int l1] h2 (some (.int r3)) h3) (q4 : xm_V X P d 228 [.int l1] h3 (some (.int r4)) h4) (q5 : l2 = (9 : Int32)) (q6 : ¬ (r4 = (0 : Int32))) (q7 : r4 ≤ (0 : Int32)) (q8 : xm_V X P d 221 [.int r0, .int r1, .int r2, .int r3, .int (r4 + (1 : Int32))] h4 (some (.int r5)) h5) : xm_E X P d co_X11_moved 0 [some (.ref l0), some (.int l1), some (.int l2), none, none, none, none, none] [] h (some (.int r5)) h5 := by
  refine xm_E_s r_X11_moved_0 rfl rfl ?_
  refine xm_E_cs [.int l1] [] r_X11_moved_1 rfl rfl rfl (Nat.le_of_ble_eq_true rfl) rfl q0 ?_
  refine xm_E_s (ls1 := [some (.ref l0), some (.int l1), some (.int l2), some (.int r0), none, none, none, none]) r_X11_moved_2 rfl rfl ?_
  refine xm_E_s r_X11_moved_3 rfl rfl ?_
  refine xm_E_cs [.int l1] [] r_X11_moved_4 rfl rfl rfl (Nat.le_of_ble_eq_true rfl) rfl q1 ?_
  refine xm_E_s (ls1 := [some (.ref l0), some (.int l1), some (.int l2), some (.int r0), some (.int r1), none, none, none]) r_X11_moved_5 rfl rfl ?_
  refine xm_E_s r_X11_moved_6 rfl rfl ?_
  refine xm_E_cs [.int l1] [] r_X11_moved_7 rfl rfl rfl (Nat.le_of_ble_eq_true rfl) rfl q2 ?_
  refine xm_E_s (ls1 := [some (.ref l0), some (.int l1), some (.int l2), some (.int r0), some (.int r1), some (.int r2), none, none]) r_X11_moved_8 rfl rfl ?_
  refine xm_E_s r_X11_moved_9 rfl rfl ?_
  refine xm_E_cs [.int l1] [] r_X11_moved_10 rfl rfl rfl (Nat.le_of_ble_eq_true rfl) rfl q3 ?_
  refine xm_E_s (ls1 := [some (.ref l0), some (.int l1), some (.int l2), some (.int r0), some (.int r1), some (.int r2), some (.int r3), none]) r_X11_moved_11 rfl rfl ?_
  refine xm_E_s r_X11_moved_12 rfl rfl ?_
  refine xm_E_cs [.int l1] [] r_X11_moved_13 rfl rfl rfl (Nat.le_of_ble_eq_true rfl) rfl q4 ?_
  refine xm_E_s (ls1 := [some (.ref l0), some (.int l1), some (.int l2), some (.int r0), some (.int r1), some (.int r2), some (.int r3), some (.int r4)]) r_X11_moved_14 rfl rfl ?_
  refine xm_E_s r_X11_moved_15 rfl rfl ?_
  refine xm_E_s r_X11_moved_16 rfl rfl ?_
  refine xm_E_s r_X11_moved_17 rfl rfl ?_
  refine xm_E_t q5 ?_
  refine xm_E_s r_X11_moved_18 rfl rfl ?_
  refine xm_E_s r_X11_moved_19 rfl rfl ?_
  refine xm_E_f q6 ?_
  refine xm_E_s r_X11_moved_22 rfl rfl ?_
  refine xm_E_s r_X11_moved_23 rfl rfl ?_
  refine xm_E_s r_X11_moved_24 rfl rfl ?_
  refine xm_E_s r_X11_moved_25 rfl rfl ?_
  refine xm_E_s r_X11_moved_26 rfl rfl ?_
  refine xm_E_s r_X11_moved_27 rfl rfl ?_
  refine xm_E_t q7 ?_
  refine xm_E_s r_X11_moved_32 rfl rfl ?_
  refine xm_E_s r_X11_moved_33 rfl rfl ?_
  refine xm_E_s r_X11_moved_34 rfl rfl ?_
  refine xm_E_cs [.int r0, .int r1, .int r2, .int r3, .int (r4 + (1 : Int32))] [] r_X11_moved_35 rfl rfl rfl (Nat.le_of_ble_eq_true rfl) rfl q8 ?_
  exact xm_E_iret r_X11_moved_36 rfl rfl
theorem w_X11_moved_0_2 {X : xm_X} {P : List xm_M} {d : Nat} {h : xm_H} {l0 : Nat} {l1 : Int32} {l2 : Int32} {h0 : xm_H} {r0 : Int32} {h1 : xm_H} {r1 : Int32} {h2 : xm_H} {r2 : Int32} {h3 : xm_H} {r3 : Int32} {h4 : xm_H} {r4 : Int32} {h5 : xm_H} {r5 : Int32} (q0 : xm_V X P d 224 [.int l1] h (some (.int r0)) h0) (q1 : xm_V X P d 225 [.int l1] h0 (some (.int r1)) h1) (q2 : xm_V X P d 226 [.int l1] h1 (some (.int r2)) h2) (q3 : xm_V X P d 227 [.int l1] h2 (some (.int r3)) h3) (q4 : xm_V X P d 228 [.int l1] h3 (some (.int r4)) h4) (q5 : l2 = (9 : Int32)) (q6 : ¬ (r4 = (0 : Int32))) (q7 : ¬ (r4 ≤ (0 : Int32))) (q8 : xm_V X P d 221 [.int r0, .int r1, .int r2, .int r3, .int (r4 - (1 : Int32))] h4 (some (.int r5)) h5) : xm_E X P d co_X11_moved 0 [some (.ref l0), some (.int l1), some (.int l2), none, none, none, none, none] [] h (some (.int r5)) h5 := by
  refine xm_E_s r_X11_moved_0 rfl rfl ?_
  refine xm_E_cs [.int l1] [] r_X11_moved_1 rfl rfl rfl (Nat.le_of_ble_eq_true rfl) rfl q0 ?_
  refine xm_E_s (ls1 := [some (.ref l0), some (.int l1), some (.int l2), some (.int r0), none, none, none, none]) r_X11_moved_2 rfl rfl ?_
  refine xm_E_s r_X11_moved_3 rfl rfl ?_
  refine xm_E_cs [.int l1] [] r_X11_moved_4 rfl rfl rfl (Nat.le_of_ble_eq_true rfl) rfl q1 ?_
  refine xm_E_s (ls1 := [some (.ref l0), some (.int l1), some (.int l2), some (.int r0), some (.int r1), none, none, none]) r_X11_moved_5 rfl rfl ?_
  refine xm_E_s r_X11_moved_6 rfl rfl ?_
  refine xm_E_cs [.int l1] [] r_X11_moved_7 rfl rfl rfl (Nat.le_of_ble_eq_true rfl) rfl q2 ?_
  refine xm_E_s (ls1 := [some (.ref l0), some (.int l1), some (.int l2), some (.int r0), some (.int r1), some (.int r2), none, none]) r_X11_moved_8 rfl rfl ?_
  refine xm_E_s r_X11_moved_9 rfl rfl ?_
  refine xm_E_cs [.int l1] [] r_X11_moved_10 rfl rfl rfl (Nat.le_of_ble_eq_true rfl) rfl q3 ?_
  refine xm_E_s (ls1 := [some (.ref l0), some (.int l1), some (.int l2), some (.int r0), some (.int r1), some (.int r2), some (.int r3), none]) r_X11_moved_11 rfl rfl ?_
  refine xm_E_s r_X11_moved_12 rfl rfl ?_
  refine xm_E_cs [.int l1] [] r_X11_moved_13 rfl rfl rfl (Nat.le_of_ble_eq_true rfl) rfl q4 ?_
  refine xm_E_s (ls1 := [some (.ref l0), some (.int l1), some (.int l2), some (.int r0), some (.int r1), some (.int r2), some (.int r3), some (.int r4)]) r_X11_moved_14 rfl rfl ?_
  refine xm_E_s r_X11_moved_15 rfl rfl ?_
  refine xm_E_s r_X11_moved_16 rfl rfl ?_
  refine xm_E_s r_X11_moved_17 rfl rfl ?_
  refine xm_E_t q5 ?_
  refine xm_E_s r_X11_moved_18 rfl rfl ?_
  refine xm_E_s r_X11_moved_19 rfl rfl ?_
  refine xm_E_f q6 ?_
  refine xm_E_s r_X11_moved_22 rfl rfl ?_
  refine xm_E_s r_X11_moved_23 rfl rfl ?_
  refine xm_E_s r_X11_moved_24 rfl rfl ?_
  refine xm_E_s r_X11_moved_25 rfl rfl ?_
  refine xm_E_s r_X11_moved_26 rfl rfl ?_
  refine xm_E_s r_X11_moved_27 rfl rfl ?_
  refine xm_E_f q7 ?_
  refine xm_E_s r_X11_moved_28 rfl rfl ?_
  refine xm_E_s r_X11_moved_29 rfl rfl ?_
  refine xm_E_s r_X11_moved_30 rfl rfl ?_
  refine xm_E_s r_X11_moved_31 rfl rfl ?_
  refine xm_E_cs [.int r0, .int r1, .int r2, .int r3, .int (r4 - (1 : Int32))] [] r_X11_moved_35 rfl rfl rfl (Nat.le_of_ble_eq_true rfl) rfl q8 ?_
  exact xm_E_iret r_X11_moved_36 rfl rfl
theorem w_X11_moved_0_3 {X : xm_X} {P : List xm_M} {d : Nat} {h : xm_H} {l0 : Nat} {l1 : Int32} {l2 : Int32} {h0 : xm_H} {r0 : Int32} {h1 : xm_H} {r1 : Int32} {h2 : xm_H} {r2 : Int32} {h3 : xm_H} {r3 : Int32} {h4 : xm_H} {r4 : Int32} {h5 : xm_H} {r5 : Int32} (q0 : xm_V X P d 224 [.int l1] h (some (.int r0)) h0) (q1 : xm_V X P d 225 [.int l1] h0 (some (.int r1)) h1) (q2 : xm_V X P d 226 [.int l1] h1 (some (.int r2)) h2) (q3 : xm_V X P d 227 [.int l1] h2 (some (.int r3)) h3) (q4 : xm_V X P d 228 [.int l1] h3 (some (.int r4)) h4) (q5 : ¬ (l2 = (9 : Int32))) (q6 : r4 = (0 : Int32)) (q7 : xm_V X P d 229 [.ref l0, .int l1, .int l2] h4 (some (.int r5)) h5) (q8 : X.1[l0]? = some (.inr 10)) (q9 : r5 = (0 : Int32)) : xm_E X P d co_X11_moved 0 [some (.ref l0), some (.int l1), some (.int l2), none, none, none, none, none] [] h (some (.int (-1 : Int32))) h5 := by
  refine xm_E_s r_X11_moved_0 rfl rfl ?_
  refine xm_E_cs [.int l1] [] r_X11_moved_1 rfl rfl rfl (Nat.le_of_ble_eq_true rfl) rfl q0 ?_
  refine xm_E_s (ls1 := [some (.ref l0), some (.int l1), some (.int l2), some (.int r0), none, none, none, none]) r_X11_moved_2 rfl rfl ?_
  refine xm_E_s r_X11_moved_3 rfl rfl ?_
  refine xm_E_cs [.int l1] [] r_X11_moved_4 rfl rfl rfl (Nat.le_of_ble_eq_true rfl) rfl q1 ?_
  refine xm_E_s (ls1 := [some (.ref l0), some (.int l1), some (.int l2), some (.int r0), some (.int r1), none, none, none]) r_X11_moved_5 rfl rfl ?_
  refine xm_E_s r_X11_moved_6 rfl rfl ?_
  refine xm_E_cs [.int l1] [] r_X11_moved_7 rfl rfl rfl (Nat.le_of_ble_eq_true rfl) rfl q2 ?_
  refine xm_E_s (ls1 := [some (.ref l0), some (.int l1), some (.int l2), some (.int r0), some (.int r1), some (.int r2), none, none]) r_X11_moved_8 rfl rfl ?_
  refine xm_E_s r_X11_moved_9 rfl rfl ?_
  refine xm_E_cs [.int l1] [] r_X11_moved_10 rfl rfl rfl (Nat.le_of_ble_eq_true rfl) rfl q3 ?_
  refine xm_E_s (ls1 := [some (.ref l0), some (.int l1), some (.int l2), some (.int r0), some (.int r1), some (.int r2), some (.int r3), none]) r_X11_moved_11 rfl rfl ?_
  refine xm_E_s r_X11_moved_12 rfl rfl ?_
  refine xm_E_cs [.int l1] [] r_X11_moved_13 rfl rfl rfl (Nat.le_of_ble_eq_true rfl) rfl q4 ?_
  refine xm_E_s (ls1 := [some (.ref l0), some (.int l1), some (.int l2), some (.int r0), some (.int r1), some (.int r2), some (.int r3), some (.int r4)]) r_X11_moved_14 rfl rfl ?_
  refine xm_E_s r_X11_moved_15 rfl rfl ?_
  refine xm_E_s r_X11_moved_16 rfl rfl ?_
  refine xm_E_s r_X11_moved_17 rfl rfl ?_
  refine xm_E_f q5 ?_
  refine xm_E_s r_X11_moved_37 rfl rfl ?_
  refine xm_E_s r_X11_moved_38 rfl rfl ?_
  refine xm_E_t q6 ?_
  refine xm_E_s r_X11_moved_39 rfl rfl ?_
  refine xm_E_s r_X11_moved_40 rfl rfl ?_
  refine xm_E_s r_X11_moved_41 rfl rfl ?_
  refine xm_E_cv [.ref l0, .int l1, .int l2] [] r_X11_moved_42 rfl rfl (Nat.le_of_ble_eq_true rfl) (xm_rc q8 (by decide)) rfl q7 ?_
  refine xm_E_s r_X11_moved_43 rfl rfl ?_
  refine xm_E_t q9 ?_
  refine xm_E_s r_X11_moved_53 rfl rfl ?_
  exact xm_E_iret r_X11_moved_54 rfl rfl
theorem w_X11_moved_0_4 {X : xm_X} {P : List xm_M} {d : Nat} {h : xm_H} {l0 : Nat} {l1 : Int32} {l2 : Int32} {h0 : xm_H} {r0 : Int32} {h1 : xm_H} {r1 : Int32} {h2 : xm_H} {r2 : Int32} {h3 : xm_H} {r3 : Int32} {h4 : xm_H} {r4 : Int32} {h5 : xm_H} {r5 : Int32} {h6 : xm_H} {r6 : Int32} (q0 : xm_V X P d 224 [.int l1] h (some (.int r0)) h0) (q1 : xm_V X P d 225 [.int l1] h0 (some (.int r1)) h1) (q2 : xm_V X P d 226 [.int l1] h1 (some (.int r2)) h2) (q3 : xm_V X P d 227 [.int l1] h2 (some (.int r3)) h3) (q4 : xm_V X P d 228 [.int l1] h3 (some (.int r4)) h4) (q5 : ¬ (l2 = (9 : Int32))) (q6 : r4 = (0 : Int32)) (q7 : xm_V X P d 229 [.ref l0, .int l1, .int l2] h4 (some (.int r5)) h5) (q8 : X.1[l0]? = some (.inr 10)) (q9 : ¬ (r5 = (0 : Int32))) (q10 : h5.1 l0 16 = (0 : Int32)) (q11 : l2 = (0 : Int32)) (q12 : r1 - r1 / (2 : Int32) * (2 : Int32) = (0 : Int32)) (q13 : r2 = (0 : Int32)) (q14 : xm_V X P d 221 [.int r0, .int (r1 / (2 : Int32)), .int (1 : Int32), .int ((1 : Int32) - r3), .int (0 : Int32)] h5 (some (.int r6)) h6) : xm_E X P d co_X11_moved 0 [some (.ref l0), some (.int l1), some (.int l2), none, none, none, none, none] [] h (some (.int r6)) h6 := by
  refine xm_E_s r_X11_moved_0 rfl rfl ?_
  refine xm_E_cs [.int l1] [] r_X11_moved_1 rfl rfl rfl (Nat.le_of_ble_eq_true rfl) rfl q0 ?_
  refine xm_E_s (ls1 := [some (.ref l0), some (.int l1), some (.int l2), some (.int r0), none, none, none, none]) r_X11_moved_2 rfl rfl ?_
  refine xm_E_s r_X11_moved_3 rfl rfl ?_
  refine xm_E_cs [.int l1] [] r_X11_moved_4 rfl rfl rfl (Nat.le_of_ble_eq_true rfl) rfl q1 ?_
  refine xm_E_s (ls1 := [some (.ref l0), some (.int l1), some (.int l2), some (.int r0), some (.int r1), none, none, none]) r_X11_moved_5 rfl rfl ?_
  refine xm_E_s r_X11_moved_6 rfl rfl ?_
  refine xm_E_cs [.int l1] [] r_X11_moved_7 rfl rfl rfl (Nat.le_of_ble_eq_true rfl) rfl q2 ?_
  refine xm_E_s (ls1 := [some (.ref l0), some (.int l1), some (.int l2), some (.int r0), some (.int r1), some (.int r2), none, none]) r_X11_moved_8 rfl rfl ?_
  refine xm_E_s r_X11_moved_9 rfl rfl ?_
  refine xm_E_cs [.int l1] [] r_X11_moved_10 rfl rfl rfl (Nat.le_of_ble_eq_true rfl) rfl q3 ?_
  refine xm_E_s (ls1 := [some (.ref l0), some (.int l1), some (.int l2), some (.int r0), some (.int r1), some (.int r2), some (.int r3), none]) r_X11_moved_11 rfl rfl ?_
  refine xm_E_s r_X11_moved_12 rfl rfl ?_
  refine xm_E_cs [.int l1] [] r_X11_moved_13 rfl rfl rfl (Nat.le_of_ble_eq_true rfl) rfl q4 ?_
  refine xm_E_s (ls1 := [some (.ref l0), some (.int l1), some (.int l2), some (.int r0), some (.int r1), some (.int r2), some (.int r3), some (.int r4)]) r_X11_moved_14 rfl rfl ?_
  refine xm_E_s r_X11_moved_15 rfl rfl ?_
  refine xm_E_s r_X11_moved_16 rfl rfl ?_
  refine xm_E_s r_X11_moved_17 rfl rfl ?_
  refine xm_E_f q5 ?_
  refine xm_E_s r_X11_moved_37 rfl rfl ?_
  refine xm_E_s r_X11_moved_38 rfl rfl ?_
  refine xm_E_t q6 ?_
  refine xm_E_s r_X11_moved_39 rfl rfl ?_
  refine xm_E_s r_X11_moved_40 rfl rfl ?_
  refine xm_E_s r_X11_moved_41 rfl rfl ?_
  refine xm_E_cv [.ref l0, .int l1, .int l2] [] r_X11_moved_42 rfl rfl (Nat.le_of_ble_eq_true rfl) (xm_rc q8 (by decide)) rfl q7 ?_
  refine xm_E_s r_X11_moved_43 rfl rfl ?_
  refine xm_E_f q9 ?_
  refine xm_E_s r_X11_moved_44 rfl rfl ?_
  refine xm_E_s r_X11_moved_45 rfl (xm_T_gi rfl q8 rfl (Or.inr rfl)) ?_
  refine xm_E_s r_X11_moved_46 rfl rfl ?_
  refine xm_E_t q10 ?_
  refine xm_E_s r_X11_moved_55 rfl rfl ?_
  refine xm_E_s r_X11_moved_56 rfl (xm_T_tab (0 : Int32) 57 rfl q11 (by decide) rfl) ?_
  refine xm_E_s r_X11_moved_57 rfl rfl ?_
  refine xm_E_s r_X11_moved_58 rfl rfl ?_
  refine xm_E_s r_X11_moved_59 rfl (xm_T_irem rfl (by decide)) ?_
  refine xm_E_s r_X11_moved_60 rfl rfl ?_
  refine xm_E_t q12 ?_
  refine xm_E_s r_X11_moved_63 rfl rfl ?_
  refine xm_E_s r_X11_moved_64 rfl rfl ?_
  refine xm_E_s r_X11_moved_65 rfl rfl ?_
  refine xm_E_s r_X11_moved_66 rfl (xm_T_idiv rfl (by decide)) ?_
  refine xm_E_s r_X11_moved_67 rfl rfl ?_
  refine xm_E_s r_X11_moved_68 rfl rfl ?_
  refine xm_E_t q13 ?_
  refine xm_E_s r_X11_moved_69 rfl rfl ?_
  refine xm_E_s r_X11_moved_70 rfl rfl ?_
  refine xm_E_s r_X11_moved_72 rfl rfl ?_
  refine xm_E_s r_X11_moved_73 rfl rfl ?_
  refine xm_E_s r_X11_moved_74 rfl rfl ?_
  refine xm_E_s r_X11_moved_75 rfl rfl ?_
  refine xm_E_cs [.int r0, .int (r1 / (2 : Int32)), .int (1 : Int32), .int ((1 : Int32) - r3), .int (0 : Int32)] [] r_X11_moved_76 rfl rfl rfl (Nat.le_of_ble_eq_true rfl) rfl q14 ?_
  exact xm_E_iret r_X11_moved_77 rfl rfl
theorem w_X11_moved_0_5 {X : xm_X} {P : List xm_M} {d : Nat} {h : xm_H} {l0 : Nat} {l1 : Int32} {l2 : Int32} {h0 : xm_H} {r0 : Int32} {h1 : xm_H} {r1 : Int32} {h2 : xm_H} {r2 : Int32} {h3 : xm_H} {r3 : Int32} {h4 : xm_H} {r4 : Int32} {h5 : xm_H} {r5 : Int32} {h6 : xm_H} {r6 : Int32} (q0 : xm_V X P d 224 [.int l1] h (some (.int r0)) h0) (q1 : xm_V X P d 225 [.int l1] h0 (some (.int r1)) h1) (q2 : xm_V X P d 226 [.int l1] h1 (some (.int r2)) h2) (q3 : xm_V X P d 227 [.int l1] h2 (some (.int r3)) h3) (q4 : xm_V X P d 228 [.int l1] h3 (some (.int r4)) h4) (q5 : ¬ (l2 = (9 : Int32))) (q6 : r4 = (0 : Int32)) (q7 : xm_V X P d 229 [.ref l0, .int l1, .int l2] h4 (some (.int r5)) h5) (q8 : X.1[l0]? = some (.inr 10)) (q9 : ¬ (r5 = (0 : Int32))) (q10 : h5.1 l0 16 = (0 : Int32)) (q11 : l2 = (0 : Int32)) (q12 : r1 - r1 / (2 : Int32) * (2 : Int32) = (0 : Int32)) (q13 : ¬ (r2 = (0 : Int32))) (q14 : xm_V X P d 221 [.int r0, .int (r1 / (2 : Int32)), .int r2, .int ((1 : Int32) - r3), .int (0 : Int32)] h5 (some (.int r6)) h6) : xm_E X P d co_X11_moved 0 [some (.ref l0), some (.int l1), some (.int l2), none, none, none, none, none] [] h (some (.int r6)) h6 := by
  refine xm_E_s r_X11_moved_0 rfl rfl ?_
  refine xm_E_cs [.int l1] [] r_X11_moved_1 rfl rfl rfl (Nat.le_of_ble_eq_true rfl) rfl q0 ?_
  refine xm_E_s (ls1 := [some (.ref l0), some (.int l1), some (.int l2), some (.int r0), none, none, none, none]) r_X11_moved_2 rfl rfl ?_
  refine xm_E_s r_X11_moved_3 rfl rfl ?_
  refine xm_E_cs [.int l1] [] r_X11_moved_4 rfl rfl rfl (Nat.le_of_ble_eq_true rfl) rfl q1 ?_
  refine xm_E_s (ls1 := [some (.ref l0), some (.int l1), some (.int l2), some (.int r0), some (.int r1), none, none, none]) r_X11_moved_5 rfl rfl ?_
  refine xm_E_s r_X11_moved_6 rfl rfl ?_
  refine xm_E_cs [.int l1] [] r_X11_moved_7 rfl rfl rfl (Nat.le_of_ble_eq_true rfl) rfl q2 ?_
  refine xm_E_s (ls1 := [some (.ref l0), some (.int l1), some (.int l2), some (.int r0), some (.int r1), some (.int r2), none, none]) r_X11_moved_8 rfl rfl ?_
  refine xm_E_s r_X11_moved_9 rfl rfl ?_
  refine xm_E_cs [.int l1] [] r_X11_moved_10 rfl rfl rfl (Nat.le_of_ble_eq_true rfl) rfl q3 ?_
  refine xm_E_s (ls1 := [some (.ref l0), some (.int l1), some (.int l2), some (.int r0), some (.int r1), some (.int r2), some (.int r3), none]) r_X11_moved_11 rfl rfl ?_
  refine xm_E_s r_X11_moved_12 rfl rfl ?_
  refine xm_E_cs [.int l1] [] r_X11_moved_13 rfl rfl rfl (Nat.le_of_ble_eq_true rfl) rfl q4 ?_
  refine xm_E_s (ls1 := [some (.ref l0), some (.int l1), some (.int l2), some (.int r0), some (.int r1), some (.int r2), some (.int r3), some (.int r4)]) r_X11_moved_14 rfl rfl ?_
  refine xm_E_s r_X11_moved_15 rfl rfl ?_
  refine xm_E_s r_X11_moved_16 rfl rfl ?_
  refine xm_E_s r_X11_moved_17 rfl rfl ?_
  refine xm_E_f q5 ?_
  refine xm_E_s r_X11_moved_37 rfl rfl ?_
  refine xm_E_s r_X11_moved_38 rfl rfl ?_
  refine xm_E_t q6 ?_
  refine xm_E_s r_X11_moved_39 rfl rfl ?_
  refine xm_E_s r_X11_moved_40 rfl rfl ?_
  refine xm_E_s r_X11_moved_41 rfl rfl ?_
  refine xm_E_cv [.ref l0, .int l1, .int l2] [] r_X11_moved_42 rfl rfl (Nat.le_of_ble_eq_true rfl) (xm_rc q8 (by decide)) rfl q7 ?_
  refine xm_E_s r_X11_moved_43 rfl rfl ?_
  refine xm_E_f q9 ?_
  refine xm_E_s r_X11_moved_44 rfl rfl ?_
  refine xm_E_s r_X11_moved_45 rfl (xm_T_gi rfl q8 rfl (Or.inr rfl)) ?_
  refine xm_E_s r_X11_moved_46 rfl rfl ?_
  refine xm_E_t q10 ?_
  refine xm_E_s r_X11_moved_55 rfl rfl ?_
  refine xm_E_s r_X11_moved_56 rfl (xm_T_tab (0 : Int32) 57 rfl q11 (by decide) rfl) ?_
  refine xm_E_s r_X11_moved_57 rfl rfl ?_
  refine xm_E_s r_X11_moved_58 rfl rfl ?_
  refine xm_E_s r_X11_moved_59 rfl (xm_T_irem rfl (by decide)) ?_
  refine xm_E_s r_X11_moved_60 rfl rfl ?_
  refine xm_E_t q12 ?_
  refine xm_E_s r_X11_moved_63 rfl rfl ?_
  refine xm_E_s r_X11_moved_64 rfl rfl ?_
  refine xm_E_s r_X11_moved_65 rfl rfl ?_
  refine xm_E_s r_X11_moved_66 rfl (xm_T_idiv rfl (by decide)) ?_
  refine xm_E_s r_X11_moved_67 rfl rfl ?_
  refine xm_E_s r_X11_moved_68 rfl rfl ?_
  refine xm_E_f q13 ?_
  refine xm_E_s r_X11_moved_71 rfl rfl ?_
  refine xm_E_s r_X11_moved_72 rfl rfl ?_
  refine xm_E_s r_X11_moved_73 rfl rfl ?_
  refine xm_E_s r_X11_moved_74 rfl rfl ?_
  refine xm_E_s r_X11_moved_75 rfl rfl ?_
  refine xm_E_cs [.int r0, .int (r1 / (2 : Int32)), .int r2, .int ((1 : Int32) - r3), .int (0 : Int32)] [] r_X11_moved_76 rfl rfl rfl (Nat.le_of_ble_eq_true rfl) rfl q14 ?_
  exact xm_E_iret r_X11_moved_77 rfl rfl
theorem w_X11_moved_0_6 {X : xm_X} {P : List xm_M} {d : Nat} {h : xm_H} {l0 : Nat} {l1 : Int32} {l2 : Int32} {h0 : xm_H} {r0 : Int32} {h1 : xm_H} {r1 : Int32} {h2 : xm_H} {r2 : Int32} {h3 : xm_H} {r3 : Int32} {h4 : xm_H} {r4 : Int32} {h5 : xm_H} {r5 : Int32} (q0 : xm_V X P d 224 [.int l1] h (some (.int r0)) h0) (q1 : xm_V X P d 225 [.int l1] h0 (some (.int r1)) h1) (q2 : xm_V X P d 226 [.int l1] h1 (some (.int r2)) h2) (q3 : xm_V X P d 227 [.int l1] h2 (some (.int r3)) h3) (q4 : xm_V X P d 228 [.int l1] h3 (some (.int r4)) h4) (q5 : ¬ (l2 = (9 : Int32))) (q6 : r4 = (0 : Int32)) (q7 : xm_V X P d 229 [.ref l0, .int l1, .int l2] h4 (some (.int r5)) h5) (q8 : X.1[l0]? = some (.inr 10)) (q9 : ¬ (r5 = (0 : Int32))) (q10 : h5.1 l0 16 = (0 : Int32)) (q11 : l2 = (0 : Int32)) (q12 : ¬ (r1 - r1 / (2 : Int32) * (2 : Int32) = (0 : Int32))) : xm_E X P d co_X11_moved 0 [some (.ref l0), some (.int l1), some (.int l2), none, none, none, none, none] [] h (some (.int (-1 : Int32))) h5 := by
  refine xm_E_s r_X11_moved_0 rfl rfl ?_
  refine xm_E_cs [.int l1] [] r_X11_moved_1 rfl rfl rfl (Nat.le_of_ble_eq_true rfl) rfl q0 ?_
  refine xm_E_s (ls1 := [some (.ref l0), some (.int l1), some (.int l2), some (.int r0), none, none, none, none]) r_X11_moved_2 rfl rfl ?_
  refine xm_E_s r_X11_moved_3 rfl rfl ?_
  refine xm_E_cs [.int l1] [] r_X11_moved_4 rfl rfl rfl (Nat.le_of_ble_eq_true rfl) rfl q1 ?_
  refine xm_E_s (ls1 := [some (.ref l0), some (.int l1), some (.int l2), some (.int r0), some (.int r1), none, none, none]) r_X11_moved_5 rfl rfl ?_
  refine xm_E_s r_X11_moved_6 rfl rfl ?_
  refine xm_E_cs [.int l1] [] r_X11_moved_7 rfl rfl rfl (Nat.le_of_ble_eq_true rfl) rfl q2 ?_
  refine xm_E_s (ls1 := [some (.ref l0), some (.int l1), some (.int l2), some (.int r0), some (.int r1), some (.int r2), none, none]) r_X11_moved_8 rfl rfl ?_
  refine xm_E_s r_X11_moved_9 rfl rfl ?_
  refine xm_E_cs [.int l1] [] r_X11_moved_10 rfl rfl rfl (Nat.le_of_ble_eq_true rfl) rfl q3 ?_
  refine xm_E_s (ls1 := [some (.ref l0), some (.int l1), some (.int l2), some (.int r0), some (.int r1), some (.int r2), some (.int r3), none]) r_X11_moved_11 rfl rfl ?_
  refine xm_E_s r_X11_moved_12 rfl rfl ?_
  refine xm_E_cs [.int l1] [] r_X11_moved_13 rfl rfl rfl (Nat.le_of_ble_eq_true rfl) rfl q4 ?_
  refine xm_E_s (ls1 := [some (.ref l0), some (.int l1), some (.int l2), some (.int r0), some (.int r1), some (.int r2), some (.int r3), some (.int r4)]) r_X11_moved_14 rfl rfl ?_
  refine xm_E_s r_X11_moved_15 rfl rfl ?_
  refine xm_E_s r_X11_moved_16 rfl rfl ?_
  refine xm_E_s r_X11_moved_17 rfl rfl ?_
  refine xm_E_f q5 ?_
  refine xm_E_s r_X11_moved_37 rfl rfl ?_
  refine xm_E_s r_X11_moved_38 rfl rfl ?_
  refine xm_E_t q6 ?_
  refine xm_E_s r_X11_moved_39 rfl rfl ?_
  refine xm_E_s r_X11_moved_40 rfl rfl ?_
  refine xm_E_s r_X11_moved_41 rfl rfl ?_
  refine xm_E_cv [.ref l0, .int l1, .int l2] [] r_X11_moved_42 rfl rfl (Nat.le_of_ble_eq_true rfl) (xm_rc q8 (by decide)) rfl q7 ?_
  refine xm_E_s r_X11_moved_43 rfl rfl ?_
  refine xm_E_f q9 ?_
  refine xm_E_s r_X11_moved_44 rfl rfl ?_
  refine xm_E_s r_X11_moved_45 rfl (xm_T_gi rfl q8 rfl (Or.inr rfl)) ?_
  refine xm_E_s r_X11_moved_46 rfl rfl ?_
  refine xm_E_t q10 ?_
  refine xm_E_s r_X11_moved_55 rfl rfl ?_
  refine xm_E_s r_X11_moved_56 rfl (xm_T_tab (0 : Int32) 57 rfl q11 (by decide) rfl) ?_
  refine xm_E_s r_X11_moved_57 rfl rfl ?_
  refine xm_E_s r_X11_moved_58 rfl rfl ?_
  refine xm_E_s r_X11_moved_59 rfl (xm_T_irem rfl (by decide)) ?_
  refine xm_E_s r_X11_moved_60 rfl rfl ?_
  refine xm_E_f q12 ?_
  refine xm_E_s r_X11_moved_61 rfl rfl ?_
  refine xm_E_s r_X11_moved_62 rfl rfl ?_
  exact xm_E_iret r_X11_moved_77 rfl rfl
theorem w_X11_moved_0_7 {X : xm_X} {P : List xm_M} {d : Nat} {h : xm_H} {l0 : Nat} {l1 : Int32} {l2 : Int32} {h0 : xm_H} {r0 : Int32} {h1 : xm_H} {r1 : Int32} {h2 : xm_H} {r2 : Int32} {h3 : xm_H} {r3 : Int32} {h4 : xm_H} {r4 : Int32} {h5 : xm_H} {r5 : Int32} {h6 : xm_H} {r6 : Int32} (q0 : xm_V X P d 224 [.int l1] h (some (.int r0)) h0) (q1 : xm_V X P d 225 [.int l1] h0 (some (.int r1)) h1) (q2 : xm_V X P d 226 [.int l1] h1 (some (.int r2)) h2) (q3 : xm_V X P d 227 [.int l1] h2 (some (.int r3)) h3) (q4 : xm_V X P d 228 [.int l1] h3 (some (.int r4)) h4) (q5 : ¬ (l2 = (9 : Int32))) (q6 : r4 = (0 : Int32)) (q7 : xm_V X P d 229 [.ref l0, .int l1, .int l2] h4 (some (.int r5)) h5) (q8 : X.1[l0]? = some (.inr 10)) (q9 : ¬ (r5 = (0 : Int32))) (q10 : h5.1 l0 16 = (0 : Int32)) (q11 : l2 = (1 : Int32)) (q12 : r1 - r1 / (2 : Int32) * (2 : Int32) = (0 : Int32)) (q13 : r2 = (1 : Int32)) (q14 : xm_V X P d 221 [.int r0, .int (r1 / (2 : Int32)), .int (0 : Int32), .int r3, .int (0 : Int32)] h5 (some (.int r6)) h6) : xm_E X P d co_X11_moved 0 [some (.ref l0), some (.int l1), some (.int l2), none, none, none, none, none] [] h (some (.int r6)) h6 := by
  refine xm_E_s r_X11_moved_0 rfl rfl ?_
  refine xm_E_cs [.int l1] [] r_X11_moved_1 rfl rfl rfl (Nat.le_of_ble_eq_true rfl) rfl q0 ?_
  refine xm_E_s (ls1 := [some (.ref l0), some (.int l1), some (.int l2), some (.int r0), none, none, none, none]) r_X11_moved_2 rfl rfl ?_
  refine xm_E_s r_X11_moved_3 rfl rfl ?_
  refine xm_E_cs [.int l1] [] r_X11_moved_4 rfl rfl rfl (Nat.le_of_ble_eq_true rfl) rfl q1 ?_
  refine xm_E_s (ls1 := [some (.ref l0), some (.int l1), some (.int l2), some (.int r0), some (.int r1), none, none, none]) r_X11_moved_5 rfl rfl ?_
  refine xm_E_s r_X11_moved_6 rfl rfl ?_
  refine xm_E_cs [.int l1] [] r_X11_moved_7 rfl rfl rfl (Nat.le_of_ble_eq_true rfl) rfl q2 ?_
  refine xm_E_s (ls1 := [some (.ref l0), some (.int l1), some (.int l2), some (.int r0), some (.int r1), some (.int r2), none, none]) r_X11_moved_8 rfl rfl ?_
  refine xm_E_s r_X11_moved_9 rfl rfl ?_
  refine xm_E_cs [.int l1] [] r_X11_moved_10 rfl rfl rfl (Nat.le_of_ble_eq_true rfl) rfl q3 ?_
  refine xm_E_s (ls1 := [some (.ref l0), some (.int l1), some (.int l2), some (.int r0), some (.int r1), some (.int r2), some (.int r3), none]) r_X11_moved_11 rfl rfl ?_
  refine xm_E_s r_X11_moved_12 rfl rfl ?_
  refine xm_E_cs [.int l1] [] r_X11_moved_13 rfl rfl rfl (Nat.le_of_ble_eq_true rfl) rfl q4 ?_
  refine xm_E_s (ls1 := [some (.ref l0), some (.int l1), some (.int l2), some (.int r0), some (.int r1), some (.int r2), some (.int r3), some (.int r4)]) r_X11_moved_14 rfl rfl ?_
  refine xm_E_s r_X11_moved_15 rfl rfl ?_
  refine xm_E_s r_X11_moved_16 rfl rfl ?_
  refine xm_E_s r_X11_moved_17 rfl rfl ?_
  refine xm_E_f q5 ?_
  refine xm_E_s r_X11_moved_37 rfl rfl ?_
  refine xm_E_s r_X11_moved_38 rfl rfl ?_
  refine xm_E_t q6 ?_
  refine xm_E_s r_X11_moved_39 rfl rfl ?_
  refine xm_E_s r_X11_moved_40 rfl rfl ?_
  refine xm_E_s r_X11_moved_41 rfl rfl ?_
  refine xm_E_cv [.ref l0, .int l1, .int l2] [] r_X11_moved_42 rfl rfl (Nat.le_of_ble_eq_true rfl) (xm_rc q8 (by decide)) rfl q7 ?_
  refine xm_E_s r_X11_moved_43 rfl rfl ?_
  refine xm_E_f q9 ?_
  refine xm_E_s r_X11_moved_44 rfl rfl ?_
  refine xm_E_s r_X11_moved_45 rfl (xm_T_gi rfl q8 rfl (Or.inr rfl)) ?_
  refine xm_E_s r_X11_moved_46 rfl rfl ?_
  refine xm_E_t q10 ?_
  refine xm_E_s r_X11_moved_55 rfl rfl ?_
  refine xm_E_s r_X11_moved_56 rfl (xm_T_tab (1 : Int32) 78 rfl q11 (by decide) rfl) ?_
  refine xm_E_s r_X11_moved_78 rfl rfl ?_
  refine xm_E_s r_X11_moved_79 rfl rfl ?_
  refine xm_E_s r_X11_moved_80 rfl (xm_T_irem rfl (by decide)) ?_
  refine xm_E_s r_X11_moved_81 rfl rfl ?_
  refine xm_E_t q12 ?_
  refine xm_E_s r_X11_moved_84 rfl rfl ?_
  refine xm_E_s r_X11_moved_85 rfl rfl ?_
  refine xm_E_s r_X11_moved_86 rfl rfl ?_
  refine xm_E_s r_X11_moved_87 rfl (xm_T_idiv rfl (by decide)) ?_
  refine xm_E_s r_X11_moved_88 rfl rfl ?_
  refine xm_E_s r_X11_moved_89 rfl rfl ?_
  refine xm_E_s r_X11_moved_90 rfl rfl ?_
  refine xm_E_t q13 ?_
  refine xm_E_s r_X11_moved_91 rfl rfl ?_
  refine xm_E_s r_X11_moved_92 rfl rfl ?_
  refine xm_E_s r_X11_moved_94 rfl rfl ?_
  refine xm_E_s r_X11_moved_95 rfl rfl ?_
  refine xm_E_cs [.int r0, .int (r1 / (2 : Int32)), .int (0 : Int32), .int r3, .int (0 : Int32)] [] r_X11_moved_96 rfl rfl rfl (Nat.le_of_ble_eq_true rfl) rfl q14 ?_
  exact xm_E_iret r_X11_moved_97 rfl rfl
theorem w_X11_moved_0_8 {X : xm_X} {P : List xm_M} {d : Nat} {h : xm_H} {l0 : Nat} {l1 : Int32} {l2 : Int32} {h0 : xm_H} {r0 : Int32} {h1 : xm_H} {r1 : Int32} {h2 : xm_H} {r2 : Int32} {h3 : xm_H} {r3 : Int32} {h4 : xm_H} {r4 : Int32} {h5 : xm_H} {r5 : Int32} {h6 : xm_H} {r6 : Int32} (q0 : xm_V X P d 224 [.int l1] h (some (.int r0)) h0) (q1 : xm_V X P d 225 [.int l1] h0 (some (.int r1)) h1) (q2 : xm_V X P d 226 [.int l1] h1 (some (.int r2)) h2) (q3 : xm_V X P d 227 [.int l1] h2 (some (.int r3)) h3) (q4 : xm_V X P d 228 [.int l1] h3 (some (.int r4)) h4) (q5 : ¬ (l2 = (9 : Int32))) (q6 : r4 = (0 : Int32)) (q7 : xm_V X P d 229 [.ref l0, .int l1, .int l2] h4 (some (.int r5)) h5) (q8 : X.1[l0]? = some (.inr 10)) (q9 : ¬ (r5 = (0 : Int32))) (q10 : h5.1 l0 16 = (0 : Int32)) (q11 : l2 = (1 : Int32)) (q12 : r1 - r1 / (2 : Int32) * (2 : Int32) = (0 : Int32)) (q13 : ¬ (r2 = (1 : Int32))) (q14 : xm_V X P d 221 [.int r0, .int (r1 / (2 : Int32)), .int r2, .int r3, .int (0 : Int32)] h5 (some (.int r6)) h6) : xm_E X P d co_X11_moved 0 [some (.ref l0), some (.int l1), some (.int l2), none, none, none, none, none] [] h (some (.int r6)) h6 := by
  refine xm_E_s r_X11_moved_0 rfl rfl ?_
  refine xm_E_cs [.int l1] [] r_X11_moved_1 rfl rfl rfl (Nat.le_of_ble_eq_true rfl) rfl q0 ?_
  refine xm_E_s (ls1 := [some (.ref l0), some (.int l1), some (.int l2), some (.int r0), none, none, none, none]) r_X11_moved_2 rfl rfl ?_
  refine xm_E_s r_X11_moved_3 rfl rfl ?_
  refine xm_E_cs [.int l1] [] r_X11_moved_4 rfl rfl rfl (Nat.le_of_ble_eq_true rfl) rfl q1 ?_
  refine xm_E_s (ls1 := [some (.ref l0), some (.int l1), some (.int l2), some (.int r0), some (.int r1), none, none, none]) r_X11_moved_5 rfl rfl ?_
  refine xm_E_s r_X11_moved_6 rfl rfl ?_
  refine xm_E_cs [.int l1] [] r_X11_moved_7 rfl rfl rfl (Nat.le_of_ble_eq_true rfl) rfl q2 ?_
  refine xm_E_s (ls1 := [some (.ref l0), some (.int l1), some (.int l2), some (.int r0), some (.int r1), some (.int r2), none, none]) r_X11_moved_8 rfl rfl ?_
  refine xm_E_s r_X11_moved_9 rfl rfl ?_
  refine xm_E_cs [.int l1] [] r_X11_moved_10 rfl rfl rfl (Nat.le_of_ble_eq_true rfl) rfl q3 ?_
  refine xm_E_s (ls1 := [some (.ref l0), some (.int l1), some (.int l2), some (.int r0), some (.int r1), some (.int r2), some (.int r3), none]) r_X11_moved_11 rfl rfl ?_
  refine xm_E_s r_X11_moved_12 rfl rfl ?_
  refine xm_E_cs [.int l1] [] r_X11_moved_13 rfl rfl rfl (Nat.le_of_ble_eq_true rfl) rfl q4 ?_
  refine xm_E_s (ls1 := [some (.ref l0), some (.int l1), some (.int l2), some (.int r0), some (.int r1), some (.int r2), some (.int r3), some (.int r4)]) r_X11_moved_14 rfl rfl ?_
  refine xm_E_s r_X11_moved_15 rfl rfl ?_
  refine xm_E_s r_X11_moved_16 rfl rfl ?_
  refine xm_E_s r_X11_moved_17 rfl rfl ?_
  refine xm_E_f q5 ?_
  refine xm_E_s r_X11_moved_37 rfl rfl ?_
  refine xm_E_s r_X11_moved_38 rfl rfl ?_
  refine xm_E_t q6 ?_
  refine xm_E_s r_X11_moved_39 rfl rfl ?_
  refine xm_E_s r_X11_moved_40 rfl rfl ?_
  refine xm_E_s r_X11_moved_41 rfl rfl ?_
  refine xm_E_cv [.ref l0, .int l1, .int l2] [] r_X11_moved_42 rfl rfl (Nat.le_of_ble_eq_true rfl) (xm_rc q8 (by decide)) rfl q7 ?_
  refine xm_E_s r_X11_moved_43 rfl rfl ?_
  refine xm_E_f q9 ?_
  refine xm_E_s r_X11_moved_44 rfl rfl ?_
  refine xm_E_s r_X11_moved_45 rfl (xm_T_gi rfl q8 rfl (Or.inr rfl)) ?_
  refine xm_E_s r_X11_moved_46 rfl rfl ?_
  refine xm_E_t q10 ?_
  refine xm_E_s r_X11_moved_55 rfl rfl ?_
  refine xm_E_s r_X11_moved_56 rfl (xm_T_tab (1 : Int32) 78 rfl q11 (by decide) rfl) ?_
  refine xm_E_s r_X11_moved_78 rfl rfl ?_
  refine xm_E_s r_X11_moved_79 rfl rfl ?_
  refine xm_E_s r_X11_moved_80 rfl (xm_T_irem rfl (by decide)) ?_
  refine xm_E_s r_X11_moved_81 rfl rfl ?_
  refine xm_E_t q12 ?_
  refine xm_E_s r_X11_moved_84 rfl rfl ?_
  refine xm_E_s r_X11_moved_85 rfl rfl ?_
  refine xm_E_s r_X11_moved_86 rfl rfl ?_
  refine xm_E_s r_X11_moved_87 rfl (xm_T_idiv rfl (by decide)) ?_
  refine xm_E_s r_X11_moved_88 rfl rfl ?_
  refine xm_E_s r_X11_moved_89 rfl rfl ?_
  refine xm_E_s r_X11_moved_90 rfl rfl ?_
  refine xm_E_f q13 ?_
  refine xm_E_s r_X11_moved_93 rfl rfl ?_
  refine xm_E_s r_X11_moved_94 rfl rfl ?_
  refine xm_E_s r_X11_moved_95 rfl rfl ?_
  refine xm_E_cs [.int r0, .int (r1 / (2 : Int32)), .int r2, .int r3, .int (0 : Int32)] [] r_X11_moved_96 rfl rfl rfl (Nat.le_of_ble_eq_true rfl) rfl q14 ?_
  exact xm_E_iret r_X11_moved_97 rfl rfl
theorem w_X11_moved_0_9 {X : xm_X} {P : List xm_M} {d : Nat} {h : xm_H} {l0 : Nat} {l1 : Int32} {l2 : Int32} {h0 : xm_H} {r0 : Int32} {h1 : xm_H} {r1 : Int32} {h2 : xm_H} {r2 : Int32} {h3 : xm_H} {r3 : Int32} {h4 : xm_H} {r4 : Int32} {h5 : xm_H} {r5 : Int32} (q0 : xm_V X P d 224 [.int l1] h (some (.int r0)) h0) (q1 : xm_V X P d 225 [.int l1] h0 (some (.int r1)) h1) (q2 : xm_V X P d 226 [.int l1] h1 (some (.int r2)) h2) (q3 : xm_V X P d 227 [.int l1] h2 (some (.int r3)) h3) (q4 : xm_V X P d 228 [.int l1] h3 (some (.int r4)) h4) (q5 : ¬ (l2 = (9 : Int32))) (q6 : r4 = (0 : Int32)) (q7 : xm_V X P d 229 [.ref l0, .int l1, .int l2] h4 (some (.int r5)) h5) (q8 : X.1[l0]? = some (.inr 10)) (q9 : ¬ (r5 = (0 : Int32))) (q10 : h5.1 l0 16 = (0 : Int32)) (q11 : l2 = (1 : Int32)) (q12 : ¬ (r1 - r1 / (2 : Int32) * (2 : Int32) = (0 : Int32))) : xm_E X P d co_X11_moved 0 [some (.ref l0), some (.int l1), some (.int l2), none, none, none, none, none] [] h (some (.int (-1 : Int32))) h5 := by
  refine xm_E_s r_X11_moved_0 rfl rfl ?_
  refine xm_E_cs [.int l1] [] r_X11_moved_1 rfl rfl rfl (Nat.le_of_ble_eq_true rfl) rfl q0 ?_
  refine xm_E_s (ls1 := [some (.ref l0), some (.int l1), some (.int l2), some (.int r0), none, none, none, none]) r_X11_moved_2 rfl rfl ?_
  refine xm_E_s r_X11_moved_3 rfl rfl ?_
  refine xm_E_cs [.int l1] [] r_X11_moved_4 rfl rfl rfl (Nat.le_of_ble_eq_true rfl) rfl q1 ?_
  refine xm_E_s (ls1 := [some (.ref l0), some (.int l1), some (.int l2), some (.int r0), some (.int r1), none, none, none]) r_X11_moved_5 rfl rfl ?_
  refine xm_E_s r_X11_moved_6 rfl rfl ?_
  refine xm_E_cs [.int l1] [] r_X11_moved_7 rfl rfl rfl (Nat.le_of_ble_eq_true rfl) rfl q2 ?_
  refine xm_E_s (ls1 := [some (.ref l0), some (.int l1), some (.int l2), some (.int r0), some (.int r1), some (.int r2), none, none]) r_X11_moved_8 rfl rfl ?_
  refine xm_E_s r_X11_moved_9 rfl rfl ?_
  refine xm_E_cs [.int l1] [] r_X11_moved_10 rfl rfl rfl (Nat.le_of_ble_eq_true rfl) rfl q3 ?_
  refine xm_E_s (ls1 := [some (.ref l0), some (.int l1), some (.int l2), some (.int r0), some (.int r1), some (.int r2), some (.int r3), none]) r_X11_moved_11 rfl rfl ?_
  refine xm_E_s r_X11_moved_12 rfl rfl ?_
  refine xm_E_cs [.int l1] [] r_X11_moved_13 rfl rfl rfl (Nat.le_of_ble_eq_true rfl) rfl q4 ?_
  refine xm_E_s (ls1 := [some (.ref l0), some (.int l1), some (.int l2), some (.int r0), some (.int r1), some (.int r2), some (.int r3), some (.int r4)]) r_X11_moved_14 rfl rfl ?_
  refine xm_E_s r_X11_moved_15 rfl rfl ?_
  refine xm_E_s r_X11_moved_16 rfl rfl ?_
  refine xm_E_s r_X11_moved_17 rfl rfl ?_
  refine xm_E_f q5 ?_
  refine xm_E_s r_X11_moved_37 rfl rfl ?_
  refine xm_E_s r_X11_moved_38 rfl rfl ?_
  refine xm_E_t q6 ?_
  refine xm_E_s r_X11_moved_39 rfl rfl ?_
  refine xm_E_s r_X11_moved_40 rfl rfl ?_
  refine xm_E_s r_X11_moved_41 rfl rfl ?_
  refine xm_E_cv [.ref l0, .int l1, .int l2] [] r_X11_moved_42 rfl rfl (Nat.le_of_ble_eq_true rfl) (xm_rc q8 (by decide)) rfl q7 ?_
  refine xm_E_s r_X11_moved_43 rfl rfl ?_
  refine xm_E_f q9 ?_
  refine xm_E_s r_X11_moved_44 rfl rfl ?_
  refine xm_E_s r_X11_moved_45 rfl (xm_T_gi rfl q8 rfl (Or.inr rfl)) ?_
  refine xm_E_s r_X11_moved_46 rfl rfl ?_
  refine xm_E_t q10 ?_
  refine xm_E_s r_X11_moved_55 rfl rfl ?_
  refine xm_E_s r_X11_moved_56 rfl (xm_T_tab (1 : Int32) 78 rfl q11 (by decide) rfl) ?_
  refine xm_E_s r_X11_moved_78 rfl rfl ?_
  refine xm_E_s r_X11_moved_79 rfl rfl ?_
  refine xm_E_s r_X11_moved_80 rfl (xm_T_irem rfl (by decide)) ?_
  refine xm_E_s r_X11_moved_81 rfl rfl ?_
  refine xm_E_f q12 ?_
  refine xm_E_s r_X11_moved_82 rfl rfl ?_
  refine xm_E_s r_X11_moved_83 rfl rfl ?_
  exact xm_E_iret r_X11_moved_97 rfl rfl
theorem w_X11_moved_0_10 {X : xm_X} {P : List xm_M} {d : Nat} {h : xm_H} {l0 : Nat} {l1 : Int32} {l2 : Int32} {h0 : xm_H} {r0 : Int32} {h1 : xm_H} {r1 : Int32} {h2 : xm_H} {r2 : Int32} {h3 : xm_H} {r3 : Int32} {h4 : xm_H} {r4 : Int32} {h5 : xm_H} {r5 : Int32} {h6 : xm_H} {r6 : Int32} (q0 : xm_V X P d 224 [.int l1] h (some (.int r0)) h0) (q1 : xm_V X P d 225 [.int l1] h0 (some (.int r1)) h1) (q2 : xm_V X P d 226 [.int l1] h1 (some (.int r2)) h2) (q3 : xm_V X P d 227 [.int l1] h2 (some (.int r3)) h3) (q4 : xm_V X P d 228 [.int l1] h3 (some (.int r4)) h4) (q5 : ¬ (l2 = (9 : Int32))) (q6 : r4 = (0 : Int32)) (q7 : xm_V X P d 229 [.ref l0, .int l1, .int l2] h4 (some (.int r5)) h5) (q8 : X.1[l0]? = some (.inr 10)) (q9 : ¬ (r5 = (0 : Int32))) (q10 : h5.1 l0 16 = (0 : Int32)) (q11 : l2 = (2 : Int32)) (q12 : r1 - r1 / (3 : Int32) * (3 : Int32) = (0 : Int32)) (q13 : r2 = (0 : Int32)) (q14 : xm_V X P d 221 [.int r0, .int (r1 / (3 : Int32)), .int (4 : Int32), .int ((1 : Int32) - r3), .int (0 : Int32)] h5 (some (.int r6)) h6) : xm_E X P d co_X11_moved 0 [some (.ref l0), some (.int l1), some (.int l2), none, none, none, none, none] [] h (some (.int r6)) h6 := by
  refine xm_E_s r_X11_moved_0 rfl rfl ?_
  refine xm_E_cs [.int l1] [] r_X11_moved_1 rfl rfl rfl (Nat.le_of_ble_eq_true rfl) rfl q0 ?_
  refine xm_E_s (ls1 := [some (.ref l0), some (.int l1), some (.int l2), some (.int r0), none, none, none, none]) r_X11_moved_2 rfl rfl ?_
  refine xm_E_s r_X11_moved_3 rfl rfl ?_
  refine xm_E_cs [.int l1] [] r_X11_moved_4 rfl rfl rfl (Nat.le_of_ble_eq_true rfl) rfl q1 ?_
  refine xm_E_s (ls1 := [some (.ref l0), some (.int l1), some (.int l2), some (.int r0), some (.int r1), none, none, none]) r_X11_moved_5 rfl rfl ?_
  refine xm_E_s r_X11_moved_6 rfl rfl ?_
  refine xm_E_cs [.int l1] [] r_X11_moved_7 rfl rfl rfl (Nat.le_of_ble_eq_true rfl) rfl q2 ?_
  refine xm_E_s (ls1 := [some (.ref l0), some (.int l1), some (.int l2), some (.int r0), some (.int r1), some (.int r2), none, none]) r_X11_moved_8 rfl rfl ?_
  refine xm_E_s r_X11_moved_9 rfl rfl ?_
  refine xm_E_cs [.int l1] [] r_X11_moved_10 rfl rfl rfl (Nat.le_of_ble_eq_true rfl) rfl q3 ?_
  refine xm_E_s (ls1 := [some (.ref l0), some (.int l1), some (.int l2), some (.int r0), some (.int r1), some (.int r2), some (.int r3), none]) r_X11_moved_11 rfl rfl ?_
  refine xm_E_s r_X11_moved_12 rfl rfl ?_
  refine xm_E_cs [.int l1] [] r_X11_moved_13 rfl rfl rfl (Nat.le_of_ble_eq_true rfl) rfl q4 ?_
  refine xm_E_s (ls1 := [some (.ref l0), some (.int l1), some (.int l2), some (.int r0), some (.int r1), some (.int r2), some (.int r3), some (.int r4)]) r_X11_moved_14 rfl rfl ?_
  refine xm_E_s r_X11_moved_15 rfl rfl ?_
  refine xm_E_s r_X11_moved_16 rfl rfl ?_
  refine xm_E_s r_X11_moved_17 rfl rfl ?_
  refine xm_E_f q5 ?_
  refine xm_E_s r_X11_moved_37 rfl rfl ?_
  refine xm_E_s r_X11_moved_38 rfl rfl ?_
  refine xm_E_t q6 ?_
  refine xm_E_s r_X11_moved_39 rfl rfl ?_
  refine xm_E_s r_X11_moved_40 rfl rfl ?_
  refine xm_E_s r_X11_moved_41 rfl rfl ?_
  refine xm_E_cv [.ref l0, .int l1, .int l2] [] r_X11_moved_42 rfl rfl (Nat.le_of_ble_eq_true rfl) (xm_rc q8 (by decide)) rfl q7 ?_
  refine xm_E_s r_X11_moved_43 rfl rfl ?_
  refine xm_E_f q9 ?_
  refine xm_E_s r_X11_moved_44 rfl rfl ?_
  refine xm_E_s r_X11_moved_45 rfl (xm_T_gi rfl q8 rfl (Or.inr rfl)) ?_
  refine xm_E_s r_X11_moved_46 rfl rfl ?_
  refine xm_E_t q10 ?_
  refine xm_E_s r_X11_moved_55 rfl rfl ?_
  refine xm_E_s r_X11_moved_56 rfl (xm_T_tab (2 : Int32) 98 rfl q11 (by decide) rfl) ?_
  refine xm_E_s r_X11_moved_98 rfl rfl ?_
  refine xm_E_s r_X11_moved_99 rfl rfl ?_
  refine xm_E_s r_X11_moved_100 rfl (xm_T_irem rfl (by decide)) ?_
  refine xm_E_s r_X11_moved_101 rfl rfl ?_
  refine xm_E_t q12 ?_
  refine xm_E_s r_X11_moved_104 rfl rfl ?_
  refine xm_E_s r_X11_moved_105 rfl rfl ?_
  refine xm_E_s r_X11_moved_106 rfl rfl ?_
  refine xm_E_s r_X11_moved_107 rfl (xm_T_idiv rfl (by decide)) ?_
  refine xm_E_s r_X11_moved_108 rfl rfl ?_
  refine xm_E_s r_X11_moved_109 rfl rfl ?_
  refine xm_E_t q13 ?_
  refine xm_E_s r_X11_moved_113 rfl rfl ?_
  refine xm_E_s r_X11_moved_114 rfl rfl ?_
  refine xm_E_s r_X11_moved_116 rfl rfl ?_
  refine xm_E_s r_X11_moved_117 rfl rfl ?_
  refine xm_E_s r_X11_moved_118 rfl rfl ?_
  refine xm_E_s r_X11_moved_119 rfl rfl ?_
  refine xm_E_cs [.int r0, .int (r1 / (3 : Int32)), .int (4 : Int32), .int ((1 : Int32) - r3), .int (0 : Int32)] [] r_X11_moved_120 rfl rfl rfl (Nat.le_of_ble_eq_true rfl) rfl q14 ?_
  exact xm_E_iret r_X11_moved_121 rfl rfl
theorem w_X11_moved_0_11 {X : xm_X} {P : List xm_M} {d : Nat} {h : xm_H} {l0 : Nat} {l1 : Int32} {l2 : Int32} {h0 : xm_H} {r0 : Int32} {h1 : xm_H} {r1 : Int32} {h2 : xm_H} {r2 : Int32} {h3 : xm_H} {r3 : Int32} {h4 : xm_H} {r4 : Int32} {h5 : xm_H} {r5 : Int32} {h6 : xm_H} {r6 : Int32} (q0 : xm_V X P d 224 [.int l1] h (some (.int r0)) h0) (q1 : xm_V X P d 225 [.int l1] h0 (some (.int r1)) h1) (q2 : xm_V X P d 226 [.int l1] h1 (some (.int r2)) h2) (q3 : xm_V X P d 227 [.int l1] h2 (some (.int r3)) h3) (q4 : xm_V X P d 228 [.int l1] h3 (some (.int r4)) h4) (q5 : ¬ (l2 = (9 : Int32))) (q6 : r4 = (0 : Int32)) (q7 : xm_V X P d 229 [.ref l0, .int l1, .int l2] h4 (some (.int r5)) h5) (q8 : X.1[l0]? = some (.inr 10)) (q9 : ¬ (r5 = (0 : Int32))) (q10 : h5.1 l0 16 = (0 : Int32)) (q11 : l2 = (2 : Int32)) (q12 : r1 - r1 / (3 : Int32) * (3 : Int32) = (0 : Int32)) (q13 : ¬ (r2 = (0 : Int32))) (q14 : r2 = (1 : Int32)) (q15 : xm_V X P d 221 [.int r0, .int (r1 / (3 : Int32)), .int (4 : Int32), .int ((1 : Int32) - r3), .int (0 : Int32)] h5 (some (.int r6)) h6) : xm_E X P d co_X11_moved 0 [some (.ref l0), some (.int l1), some (.int l2), none, none, none, none, none] [] h (some (.int r6)) h6 := by
  refine xm_E_s r_X11_moved_0 rfl rfl ?_
  refine xm_E_cs [.int l1] [] r_X11_moved_1 rfl rfl rfl (Nat.le_of_ble_eq_true rfl) rfl q0 ?_
  refine xm_E_s (ls1 := [some (.ref l0), some (.int l1), some (.int l2), some (.int r0), none, none, none, none]) r_X11_moved_2 rfl rfl ?_
  refine xm_E_s r_X11_moved_3 rfl rfl ?_
  refine xm_E_cs [.int l1] [] r_X11_moved_4 rfl rfl rfl (Nat.le_of_ble_eq_true rfl) rfl q1 ?_
  refine xm_E_s (ls1 := [some (.ref l0), some (.int l1), some (.int l2), some (.int r0), some (.int r1), none, none, none]) r_X11_moved_5 rfl rfl ?_
  refine xm_E_s r_X11_moved_6 rfl rfl ?_
  refine xm_E_cs [.int l1] [] r_X11_moved_7 rfl rfl rfl (Nat.le_of_ble_eq_true rfl) rfl q2 ?_
  refine xm_E_s (ls1 := [some (.ref l0), some (.int l1), some (.int l2), some (.int r0), some (.int r1), some (.int r2), none, none]) r_X11_moved_8 rfl rfl ?_
  refine xm_E_s r_X11_moved_9 rfl rfl ?_
  refine xm_E_cs [.int l1] [] r_X11_moved_10 rfl rfl rfl (Nat.le_of_ble_eq_true rfl) rfl q3 ?_
  refine xm_E_s (ls1 := [some (.ref l0), some (.int l1), some (.int l2), some (.int r0), some (.int r1), some (.int r2), some (.int r3), none]) r_X11_moved_11 rfl rfl ?_
  refine xm_E_s r_X11_moved_12 rfl rfl ?_
  refine xm_E_cs [.int l1] [] r_X11_moved_13 rfl rfl rfl (Nat.le_of_ble_eq_true rfl) rfl q4 ?_
  refine xm_E_s (ls1 := [some (.ref l0), some (.int l1), some (.int l2), some (.int r0), some (.int r1), some (.int r2), some (.int r3), some (.int r4)]) r_X11_moved_14 rfl rfl ?_
  refine xm_E_s r_X11_moved_15 rfl rfl ?_
  refine xm_E_s r_X11_moved_16 rfl rfl ?_
  refine xm_E_s r_X11_moved_17 rfl rfl ?_
  refine xm_E_f q5 ?_
  refine xm_E_s r_X11_moved_37 rfl rfl ?_
  refine xm_E_s r_X11_moved_38 rfl rfl ?_
  refine xm_E_t q6 ?_
  refine xm_E_s r_X11_moved_39 rfl rfl ?_
  refine xm_E_s r_X11_moved_40 rfl rfl ?_
  refine xm_E_s r_X11_moved_41 rfl rfl ?_
  refine xm_E_cv [.ref l0, .int l1, .int l2] [] r_X11_moved_42 rfl rfl (Nat.le_of_ble_eq_true rfl) (xm_rc q8 (by decide)) rfl q7 ?_
  refine xm_E_s r_X11_moved_43 rfl rfl ?_
  refine xm_E_f q9 ?_
  refine xm_E_s r_X11_moved_44 rfl rfl ?_
  refine xm_E_s r_X11_moved_45 rfl (xm_T_gi rfl q8 rfl (Or.inr rfl)) ?_
  refine xm_E_s r_X11_moved_46 rfl rfl ?_
  refine xm_E_t q10 ?_
  refine xm_E_s r_X11_moved_55 rfl rfl ?_
  refine xm_E_s r_X11_moved_56 rfl (xm_T_tab (2 : Int32) 98 rfl q11 (by decide) rfl) ?_
  refine xm_E_s r_X11_moved_98 rfl rfl ?_
  refine xm_E_s r_X11_moved_99 rfl rfl ?_
  refine xm_E_s r_X11_moved_100 rfl (xm_T_irem rfl (by decide)) ?_
  refine xm_E_s r_X11_moved_101 rfl rfl ?_
  refine xm_E_t q12 ?_
  refine xm_E_s r_X11_moved_104 rfl rfl ?_
  refine xm_E_s r_X11_moved_105 rfl rfl ?_
  refine xm_E_s r_X11_moved_106 rfl rfl ?_
  refine xm_E_s r_X11_moved_107 rfl (xm_T_idiv rfl (by decide)) ?_
  refine xm_E_s r_X11_moved_108 rfl rfl ?_
  refine xm_E_s r_X11_moved_109 rfl rfl ?_
  refine xm_E_f q13 ?_
  refine xm_E_s r_X11_moved_110 rfl rfl ?_
  refine xm_E_s r_X11_moved_111 rfl rfl ?_
  refine xm_E_s r_X11_moved_112 rfl rfl ?_
  refine xm_E_t q14 ?_
  refine xm_E_s r_X11_moved_113 rfl rfl ?_
  refine xm_E_s r_X11_moved_114 rfl rfl ?_
  refine xm_E_s r_X11_moved_116 rfl rfl ?_
  refine xm_E_s r_X11_moved_117 rfl rfl ?_
  refine xm_E_s r_X11_moved_118 rfl rfl ?_
  refine xm_E_s r_X11_moved_119 rfl rfl ?_
  refine xm_E_cs [.int r0, .int (r1 / (3 : Int32)), .int (4 : Int32), .int ((1 : Int32) - r3), .int (0 : Int32)] [] r_X11_moved_120 rfl rfl rfl (Nat.le_of_ble_eq_true rfl) rfl q15 ?_
  exact xm_E_iret r_X11_moved_121 rfl rfl
theorem w_X11_moved_0_12 {X : xm_X} {P : List xm_M} {d : Nat} {h : xm_H} {l0 : Nat} {l1 : Int32} {l2 : Int32} {h0 : xm_H} {r0 : Int32} {h1 : xm_H} {r1 : Int32} {h2 : xm_H} {r2 : Int32} {h3 : xm_H} {r3 : Int32} {h4 : xm_H} {r4 : Int32} {h5 : xm_H} {r5 : Int32} {h6 : xm_H} {r6 : Int32} (q0 : xm_V X P d 224 [.int l1] h (some (.int r0)) h0) (q1 : xm_V X P d 225 [.int l1] h0 (some (.int r1)) h1) (q2 : xm_V X P d 226 [.int l1] h1 (some (.int r2)) h2) (q3 : xm_V X P d 227 [.int l1] h2 (some (.int r3)) h3) (q4 : xm_V X P d 228 [.int l1] h3 (some (.int r4)) h4) (q5 : ¬ (l2 = (9 : Int32))) (q6 : r4 = (0 : Int32)) (q7 : xm_V X P d 229 [.ref l0, .int l1, .int l2] h4 (some (.int r5)) h5) (q8 : X.1[l0]? = some (.inr 10)) (q9 : ¬ (r5 = (0 : Int32))) (q10 : h5.1 l0 16 = (0 : Int32)) (q11 : l2 = (2 : Int32)) (q12 : r1 - r1 / (3 : Int32) * (3 : Int32) = (0 : Int32)) (q13 : ¬ (r2 = (0 : Int32))) (q14 : ¬ (r2 = (1 : Int32))) (q15 : xm_V X P d 221 [.int r0, .int (r1 / (3 : Int32)), .int r2, .int ((1 : Int32) - r3), .int (0 : Int32)] h5 (some (.int r6)) h6) : xm_E X P d co_X11_moved 0 [some (.ref l0), some (.int l1), some (.int l2), none, none, none, none, none] [] h (some (.int r6)) h6 := by
  refine xm_E_s r_X11_moved_0 rfl rfl ?_
  refine xm_E_cs [.int l1] [] r_X11_moved_1 rfl rfl rfl (Nat.le_of_ble_eq_true rfl) rfl q0 ?_
  refine xm_E_s (ls1 := [some (.ref l0), some (.int l1), some (.int l2), some (.int r0), none, none, none, none]) r_X11_moved_2 rfl rfl ?_
  refine xm_E_s r_X11_moved_3 rfl rfl ?_
  refine xm_E_cs [.int l1] [] r_X11_moved_4 rfl rfl rfl (Nat.le_of_ble_eq_true rfl) rfl q1 ?_
  refine xm_E_s (ls1 := [some (.ref l0), some (.int l1), some (.int l2), some (.int r0), some (.int r1), none, none, none]) r_X11_moved_5 rfl rfl ?_
  refine xm_E_s r_X11_moved_6 rfl rfl ?_
  refine xm_E_cs [.int l1] [] r_X11_moved_7 rfl rfl rfl (Nat.le_of_ble_eq_true rfl) rfl q2 ?_
  refine xm_E_s (ls1 := [some (.ref l0), some (.int l1), some (.int l2), some (.int r0), some (.int r1), some (.int r2), none, none]) r_X11_moved_8 rfl rfl ?_
  refine xm_E_s r_X11_moved_9 rfl rfl ?_
  refine xm_E_cs [.int l1] [] r_X11_moved_10 rfl rfl rfl (Nat.le_of_ble_eq_true rfl) rfl q3 ?_
  refine xm_E_s (ls1 := [some (.ref l0), some (.int l1), some (.int l2), some (.int r0), some (.int r1), some (.int r2), some (.int r3), none]) r_X11_moved_11 rfl rfl ?_
  refine xm_E_s r_X11_moved_12 rfl rfl ?_
  refine xm_E_cs [.int l1] [] r_X11_moved_13 rfl rfl rfl (Nat.le_of_ble_eq_true rfl) rfl q4 ?_
  refine xm_E_s (ls1 := [some (.ref l0), some (.int l1), some (.int l2), some (.int r0), some (.int r1), some (.int r2), some (.int r3), some (.int r4)]) r_X11_moved_14 rfl rfl ?_
  refine xm_E_s r_X11_moved_15 rfl rfl ?_
  refine xm_E_s r_X11_moved_16 rfl rfl ?_
  refine xm_E_s r_X11_moved_17 rfl rfl ?_
  refine xm_E_f q5 ?_
  refine xm_E_s r_X11_moved_37 rfl rfl ?_
  refine xm_E_s r_X11_moved_38 rfl rfl ?_
  refine xm_E_t q6 ?_
  refine xm_E_s r_X11_moved_39 rfl rfl ?_
  refine xm_E_s r_X11_moved_40 rfl rfl ?_
  refine xm_E_s r_X11_moved_41 rfl rfl ?_
  refine xm_E_cv [.ref l0, .int l1, .int l2] [] r_X11_moved_42 rfl rfl (Nat.le_of_ble_eq_true rfl) (xm_rc q8 (by decide)) rfl q7 ?_
  refine xm_E_s r_X11_moved_43 rfl rfl ?_
  refine xm_E_f q9 ?_
  refine xm_E_s r_X11_moved_44 rfl rfl ?_
  refine xm_E_s r_X11_moved_45 rfl (xm_T_gi rfl q8 rfl (Or.inr rfl)) ?_
  refine xm_E_s r_X11_moved_46 rfl rfl ?_
  refine xm_E_t q10 ?_
  refine xm_E_s r_X11_moved_55 rfl rfl ?_
  refine xm_E_s r_X11_moved_56 rfl (xm_T_tab (2 : Int32) 98 rfl q11 (by decide) rfl) ?_
  refine xm_E_s r_X11_moved_98 rfl rfl ?_
  refine xm_E_s r_X11_moved_99 rfl rfl ?_
  refine xm_E_s r_X11_moved_100 rfl (xm_T_irem rfl (by decide)) ?_
  refine xm_E_s r_X11_moved_101 rfl rfl ?_
  refine xm_E_t q12 ?_
  refine xm_E_s r_X11_moved_104 rfl rfl ?_
  refine xm_E_s r_X11_moved_105 rfl rfl ?_
  refine xm_E_s r_X11_moved_106 rfl rfl ?_
  refine xm_E_s r_X11_moved_107 rfl (xm_T_idiv rfl (by decide)) ?_
  refine xm_E_s r_X11_moved_108 rfl rfl ?_
  refine xm_E_s r_X11_moved_109 rfl rfl ?_
  refine xm_E_f q13 ?_
  refine xm_E_s r_X11_moved_110 rfl rfl ?_
  refine xm_E_s r_X11_moved_111 rfl rfl ?_
  refine xm_E_s r_X11_moved_112 rfl rfl ?_
  refine xm_E_f q14 ?_
  refine xm_E_s r_X11_moved_115 rfl rfl ?_
  refine xm_E_s r_X11_moved_116 rfl rfl ?_
  refine xm_E_s r_X11_moved_117 rfl rfl ?_
  refine xm_E_s r_X11_moved_118 rfl rfl ?_
  refine xm_E_s r_X11_moved_119 rfl rfl ?_
  refine xm_E_cs [.int r0, .int (r1 / (3 : Int32)), .int r2, .int ((1 : Int32) - r3), .int (0 : Int32)] [] r_X11_moved_120 rfl rfl rfl (Nat.le_of_ble_eq_true rfl) rfl q15 ?_
  exact xm_E_iret r_X11_moved_121 rfl rfl
theorem w_X11_moved_0_13 {X : xm_X} {P : List xm_M} {d : Nat} {h : xm_H} {l0 : Nat} {l1 : Int32} {l2 : Int32} {h0 : xm_H} {r0 : Int32} {h1 : xm_H} {r1 : Int32} {h2 : xm_H} {r2 : Int32} {h3 : xm_H} {r3 : Int32} {h4 : xm_H} {r4 : Int32} {h5 : xm_H} {r5 : Int32} (q0 : xm_V X P d 224 [.int l1] h (some (.int r0)) h0) (q1 : xm_V X P d 225 [.int l1] h0 (some (.int r1)) h1) (q2 : xm_V X P d 226 [.int l1] h1 (some (.int r2)) h2) (q3 : xm_V X P d 227 [.int l1] h2 (some (.int r3)) h3) (q4 : xm_V X P d 228 [.int l1] h3 (some (.int r4)) h4) (q5 : ¬ (l2 = (9 : Int32))) (q6 : r4 = (0 : Int32)) (q7 : xm_V X P d 229 [.ref l0, .int l1, .int l2] h4 (some (.int r5)) h5) (q8 : X.1[l0]? = some (.inr 10)) (q9 : ¬ (r5 = (0 : Int32))) (q10 : h5.1 l0 16 = (0 : Int32)) (q11 : l2 = (2 : Int32)) (q12 : ¬ (r1 - r1 / (3 : Int32) * (3 : Int32) = (0 : Int32))) : xm_E X P d co_X11_moved 0 [some (.ref l0), some (.int l1), some (.int l2), none, none, none, none, none] [] h (some (.int (-1 : Int32))) h5 := by
  refine xm_E_s r_X11_moved_0 rfl rfl ?_
  refine xm_E_cs [.int l1] [] r_X11_moved_1 rfl rfl rfl (Nat.le_of_ble_eq_true rfl) rfl q0 ?_
  refine xm_E_s (ls1 := [some (.ref l0), some (.int l1), some (.int l2), some (.int r0), none, none, none, none]) r_X11_moved_2 rfl rfl ?_
  refine xm_E_s r_X11_moved_3 rfl rfl ?_
  refine xm_E_cs [.int l1] [] r_X11_moved_4 rfl rfl rfl (Nat.le_of_ble_eq_true rfl) rfl q1 ?_
  refine xm_E_s (ls1 := [some (.ref l0), some (.int l1), some (.int l2), some (.int r0), some (.int r1), none, none, none]) r_X11_moved_5 rfl rfl ?_
  refine xm_E_s r_X11_moved_6 rfl rfl ?_
  refine xm_E_cs [.int l1] [] r_X11_moved_7 rfl rfl rfl (Nat.le_of_ble_eq_true rfl) rfl q2 ?_
  refine xm_E_s (ls1 := [some (.ref l0), some (.int l1), some (.int l2), some (.int r0), some (.int r1), some (.int r2), none, none]) r_X11_moved_8 rfl rfl ?_
  refine xm_E_s r_X11_moved_9 rfl rfl ?_
  refine xm_E_cs [.int l1] [] r_X11_moved_10 rfl rfl rfl (Nat.le_of_ble_eq_true rfl) rfl q3 ?_
  refine xm_E_s (ls1 := [some (.ref l0), some (.int l1), some (.int l2), some (.int r0), some (.int r1), some (.int r2), some (.int r3), none]) r_X11_moved_11 rfl rfl ?_
  refine xm_E_s r_X11_moved_12 rfl rfl ?_
  refine xm_E_cs [.int l1] [] r_X11_moved_13 rfl rfl rfl (Nat.le_of_ble_eq_true rfl) rfl q4 ?_
  refine xm_E_s (ls1 := [some (.ref l0), some (.int l1), some (.int l2), some (.int r0), some (.int r1), some (.int r2), some (.int r3), some (.int r4)]) r_X11_moved_14 rfl rfl ?_
  refine xm_E_s r_X11_moved_15 rfl rfl ?_
  refine xm_E_s r_X11_moved_16 rfl rfl ?_
  refine xm_E_s r_X11_moved_17 rfl rfl ?_
  refine xm_E_f q5 ?_
  refine xm_E_s r_X11_moved_37 rfl rfl ?_
  refine xm_E_s r_X11_moved_38 rfl rfl ?_
  refine xm_E_t q6 ?_
  refine xm_E_s r_X11_moved_39 rfl rfl ?_
  refine xm_E_s r_X11_moved_40 rfl rfl ?_
  refine xm_E_s r_X11_moved_41 rfl rfl ?_
  refine xm_E_cv [.ref l0, .int l1, .int l2] [] r_X11_moved_42 rfl rfl (Nat.le_of_ble_eq_true rfl) (xm_rc q8 (by decide)) rfl q7 ?_
  refine xm_E_s r_X11_moved_43 rfl rfl ?_
  refine xm_E_f q9 ?_
  refine xm_E_s r_X11_moved_44 rfl rfl ?_
  refine xm_E_s r_X11_moved_45 rfl (xm_T_gi rfl q8 rfl (Or.inr rfl)) ?_
  refine xm_E_s r_X11_moved_46 rfl rfl ?_
  refine xm_E_t q10 ?_
  refine xm_E_s r_X11_moved_55 rfl rfl ?_
  refine xm_E_s r_X11_moved_56 rfl (xm_T_tab (2 : Int32) 98 rfl q11 (by decide) rfl) ?_
  refine xm_E_s r_X11_moved_98 rfl rfl ?_
  refine xm_E_s r_X11_moved_99 rfl rfl ?_
  refine xm_E_s r_X11_moved_100 rfl (xm_T_irem rfl (by decide)) ?_
  refine xm_E_s r_X11_moved_101 rfl rfl ?_
  refine xm_E_f q12 ?_
  refine xm_E_s r_X11_moved_102 rfl rfl ?_
  refine xm_E_s r_X11_moved_103 rfl rfl ?_
  exact xm_E_iret r_X11_moved_121 rfl rfl
theorem w_X11_moved_0_14 {X : xm_X} {P : List xm_M} {d : Nat} {h : xm_H} {l0 : Nat} {l1 : Int32} {l2 : Int32} {h0 : xm_H} {r0 : Int32} {h1 : xm_H} {r1 : Int32} {h2 : xm_H} {r2 : Int32} {h3 : xm_H} {r3 : Int32} {h4 : xm_H} {r4 : Int32} {h5 : xm_H} {r5 : Int32} {h6 : xm_H} {r6 : Int32} (q0 : xm_V X P d 224 [.int l1] h (some (.int r0)) h0) (q1 : xm_V X P d 225 [.int l1] h0 (some (.int r1)) h1) (q2 : xm_V X P d 226 [.int l1] h1 (some (.int r2)) h2) (q3 : xm_V X P d 227 [.int l1] h2 (some (.int r3)) h3) (q4 : xm_V X P d 228 [.int l1] h3 (some (.int r4)) h4) (q5 : ¬ (l2 = (9 : Int32))) (q6 : r4 = (0 : Int32)) (q7 : xm_V X P d 229 [.ref l0, .int l1, .int l2] h4 (some (.int r5)) h5) (q8 : X.1[l0]? = some (.inr 10)) (q9 : ¬ (r5 = (0 : Int32))) (q10 : h5.1 l0 16 = (0 : Int32)) (q11 : l2 = (3 : Int32)) (q12 : r0 - r0 / (2 : Int32) * (2 : Int32) = (0 : Int32)) (q13 : r2 = (2 : Int32)) (q14 : xm_V X P d 221 [.int (r0 / (2 : Int32)), .int r1, .int (3 : Int32), .int ((1 : Int32) - r3), .int (0 : Int32)] h5 (some (.int r6)) h6) : xm_E X P d co_X11_moved 0 [some (.ref l0), some (.int l1), some (.int l2), none, none, none, none, none] [] h (some (.int r6)) h6 := by
  refine xm_E_s r_X11_moved_0 rfl rfl ?_
  refine xm_E_cs [.int l1] [] r_X11_moved_1 rfl rfl rfl (Nat.le_of_ble_eq_true rfl) rfl q0 ?_
  refine xm_E_s (ls1 := [some (.ref l0), some (.int l1), some (.int l2), some (.int r0), none, none, none, none]) r_X11_moved_2 rfl rfl ?_
  refine xm_E_s r_X11_moved_3 rfl rfl ?_
  refine xm_E_cs [.int l1] [] r_X11_moved_4 rfl rfl rfl (Nat.le_of_ble_eq_true rfl) rfl q1 ?_
  refine xm_E_s (ls1 := [some (.ref l0), some (.int l1), some (.int l2), some (.int r0), some (.int r1), none, none, none]) r_X11_moved_5 rfl rfl ?_
  refine xm_E_s r_X11_moved_6 rfl rfl ?_
  refine xm_E_cs [.int l1] [] r_X11_moved_7 rfl rfl rfl (Nat.le_of_ble_eq_true rfl) rfl q2 ?_
  refine xm_E_s (ls1 := [some (.ref l0), some (.int l1), some (.int l2), some (.int r0), some (.int r1), some (.int r2), none, none]) r_X11_moved_8 rfl rfl ?_
  refine xm_E_s r_X11_moved_9 rfl rfl ?_
  refine xm_E_cs [.int l1] [] r_X11_moved_10 rfl rfl rfl (Nat.le_of_ble_eq_true rfl) rfl q3 ?_
  refine xm_E_s (ls1 := [some (.ref l0), some (.int l1), some (.int l2), some (.int r0), some (.int r1), some (.int r2), some (.int r3), none]) r_X11_moved_11 rfl rfl ?_
  refine xm_E_s r_X11_moved_12 rfl rfl ?_
  refine xm_E_cs [.int l1] [] r_X11_moved_13 rfl rfl rfl (Nat.le_of_ble_eq_true rfl) rfl q4 ?_
  refine xm_E_s (ls1 := [some (.ref l0), some (.int l1), some (.int l2), some (.int r0), some (.int r1), some (.int r2), some (.int r3), some (.int r4)]) r_X11_moved_14 rfl rfl ?_
  refine xm_E_s r_X11_moved_15 rfl rfl ?_
  refine xm_E_s r_X11_moved_16 rfl rfl ?_
  refine xm_E_s r_X11_moved_17 rfl rfl ?_
  refine xm_E_f q5 ?_
  refine xm_E_s r_X11_moved_37 rfl rfl ?_
  refine xm_E_s r_X11_moved_38 rfl rfl ?_
  refine xm_E_t q6 ?_
  refine xm_E_s r_X11_moved_39 rfl rfl ?_
  refine xm_E_s r_X11_moved_40 rfl rfl ?_
  refine xm_E_s r_X11_moved_41 rfl rfl ?_
  refine xm_E_cv [.ref l0, .int l1, .int l2] [] r_X11_moved_42 rfl rfl (Nat.le_of_ble_eq_true rfl) (xm_rc q8 (by decide)) rfl q7 ?_
  refine xm_E_s r_X11_moved_43 rfl rfl ?_
  refine xm_E_f q9 ?_
  refine xm_E_s r_X11_moved_44 rfl rfl ?_
  refine xm_E_s r_X11_moved_45 rfl (xm_T_gi rfl q8 rfl (Or.inr rfl)) ?_
  refine xm_E_s r_X11_moved_46 rfl rfl ?_
  refine xm_E_t q10 ?_
  refine xm_E_s r_X11_moved_55 rfl rfl ?_
  refine xm_E_s r_X11_moved_56 rfl (xm_T_tab (3 : Int32) 122 rfl q11 (by decide) rfl) ?_
  refine xm_E_s r_X11_moved_122 rfl rfl ?_
  refine xm_E_s r_X11_moved_123 rfl rfl ?_
  refine xm_E_s r_X11_moved_124 rfl (xm_T_irem rfl (by decide)) ?_
  refine xm_E_s r_X11_moved_125 rfl rfl ?_
  refine xm_E_t q12 ?_
  refine xm_E_s r_X11_moved_128 rfl rfl ?_
  refine xm_E_s r_X11_moved_129 rfl rfl ?_
  refine xm_E_s r_X11_moved_130 rfl (xm_T_idiv rfl (by decide)) ?_
  refine xm_E_s r_X11_moved_131 rfl rfl ?_
  refine xm_E_s r_X11_moved_132 rfl rfl ?_
  refine xm_E_s r_X11_moved_133 rfl rfl ?_
  refine xm_E_s r_X11_moved_134 rfl rfl ?_
  refine xm_E_t q13 ?_
  refine xm_E_s r_X11_moved_135 rfl rfl ?_
  refine xm_E_s r_X11_moved_136 rfl rfl ?_
  refine xm_E_s r_X11_moved_138 rfl rfl ?_
  refine xm_E_s r_X11_moved_139 rfl rfl ?_
  refine xm_E_s r_X11_moved_140 rfl rfl ?_
  refine xm_E_s r_X11_moved_141 rfl rfl ?_
  refine xm_E_cs [.int (r0 / (2 : Int32)), .int r1, .int (3 : Int32), .int ((1 : Int32) - r3), .int (0 : Int32)] [] r_X11_moved_142 rfl rfl rfl (Nat.le_of_ble_eq_true rfl) rfl q14 ?_
  exact xm_E_iret r_X11_moved_143 rfl rfl
theorem w_X11_moved_0_15 {X : xm_X} {P : List xm_M} {d : Nat} {h : xm_H} {l0 : Nat} {l1 : Int32} {l2 : Int32} {h0 : xm_H} {r0 : Int32} {h1 : xm_H} {r1 : Int32} {h2 : xm_H} {r2 : Int32} {h3 : xm_H} {r3 : Int32} {h4 : xm_H} {r4 : Int32} {h5 : xm_H} {r5 : Int32} {h6 : xm_H} {r6 : Int32} (q0 : xm_V X P d 224 [.int l1] h (some (.int r0)) h0) (q1 : xm_V X P d 225 [.int l1] h0 (some (.int r1)) h1) (q2 : xm_V X P d 226 [.int l1] h1 (some (.int r2)) h2) (q3 : xm_V X P d 227 [.int l1] h2 (some (.int r3)) h3) (q4 : xm_V X P d 228 [.int l1] h3 (some (.int r4)) h4) (q5 : ¬ (l2 = (9 : Int32))) (q6 : r4 = (0 : Int32)) (q7 : xm_V X P d 229 [.ref l0, .int l1, .int l2] h4 (some (.int r5)) h5) (q8 : X.1[l0]? = some (.inr 10)) (q9 : ¬ (r5 = (0 : Int32))) (q10 : h5.1 l0 16 = (0 : Int32)) (q11 : l2 = (3 : Int32)) (q12 : r0 - r0 / (2 : Int32) * (2 : Int32) = (0 : Int32)) (q13 : ¬ (r2 = (2 : Int32))) (q14 : xm_V X P d 221 [.int (r0 / (2 : Int32)), .int r1, .int r2, .int ((1 : Int32) - r3), .int (0 : Int32)] h5 (some (.int r6)) h6) : xm_E X P d co_X11_moved 0 [some (.ref l0), some (.int l1), some (.int l2), none, none, none, none, none] [] h (some (.int r6)) h6 := by
  refine xm_E_s r_X11_moved_0 rfl rfl ?_
  refine xm_E_cs [.int l1] [] r_X11_moved_1 rfl rfl rfl (Nat.le_of_ble_eq_true rfl) rfl q0 ?_
  refine xm_E_s (ls1 := [some (.ref l0), some (.int l1), some (.int l2), some (.int r0), none, none, none, none]) r_X11_moved_2 rfl rfl ?_
  refine xm_E_s r_X11_moved_3 rfl rfl ?_
  refine xm_E_cs [.int l1] [] r_X11_moved_4 rfl rfl rfl (Nat.le_of_ble_eq_true rfl) rfl q1 ?_
  refine xm_E_s (ls1 := [some (.ref l0), some (.int l1), some (.int l2), some (.int r0), some (.int r1), none, none, none]) r_X11_moved_5 rfl rfl ?_
  refine xm_E_s r_X11_moved_6 rfl rfl ?_
  refine xm_E_cs [.int l1] [] r_X11_moved_7 rfl rfl rfl (Nat.le_of_ble_eq_true rfl) rfl q2 ?_
  refine xm_E_s (ls1 := [some (.ref l0), some (.int l1), some (.int l2), some (.int r0), some (.int r1), some (.int r2), none, none]) r_X11_moved_8 rfl rfl ?_
  refine xm_E_s r_X11_moved_9 rfl rfl ?_
  refine xm_E_cs [.int l1] [] r_X11_moved_10 rfl rfl rfl (Nat.le_of_ble_eq_true rfl) rfl q3 ?_
  refine xm_E_s (ls1 := [some (.ref l0), some (.int l1), some (.int l2), some (.int r0), some (.int r1), some (.int r2), some (.int r3), none]) r_X11_moved_11 rfl rfl ?_
  refine xm_E_s r_X11_moved_12 rfl rfl ?_
  refine xm_E_cs [.int l1] [] r_X11_moved_13 rfl rfl rfl (Nat.le_of_ble_eq_true rfl) rfl q4 ?_
  refine xm_E_s (ls1 := [some (.ref l0), some (.int l1), some (.int l2), some (.int r0), some (.int r1), some (.int r2), some (.int r3), some (.int r4)]) r_X11_moved_14 rfl rfl ?_
  refine xm_E_s r_X11_moved_15 rfl rfl ?_
  refine xm_E_s r_X11_moved_16 rfl rfl ?_
  refine xm_E_s r_X11_moved_17 rfl rfl ?_
  refine xm_E_f q5 ?_
  refine xm_E_s r_X11_moved_37 rfl rfl ?_
  refine xm_E_s r_X11_moved_38 rfl rfl ?_
  refine xm_E_t q6 ?_
  refine xm_E_s r_X11_moved_39 rfl rfl ?_
  refine xm_E_s r_X11_moved_40 rfl rfl ?_
  refine xm_E_s r_X11_moved_41 rfl rfl ?_
  refine xm_E_cv [.ref l0, .int l1, .int l2] [] r_X11_moved_42 rfl rfl (Nat.le_of_ble_eq_true rfl) (xm_rc q8 (by decide)) rfl q7 ?_
  refine xm_E_s r_X11_moved_43 rfl rfl ?_
  refine xm_E_f q9 ?_
  refine xm_E_s r_X11_moved_44 rfl rfl ?_
  refine xm_E_s r_X11_moved_45 rfl (xm_T_gi rfl q8 rfl (Or.inr rfl)) ?_
  refine xm_E_s r_X11_moved_46 rfl rfl ?_
  refine xm_E_t q10 ?_
  refine xm_E_s r_X11_moved_55 rfl rfl ?_
  refine xm_E_s r_X11_moved_56 rfl (xm_T_tab (3 : Int32) 122 rfl q11 (by decide) rfl) ?_
  refine xm_E_s r_X11_moved_122 rfl rfl ?_
  refine xm_E_s r_X11_moved_123 rfl rfl ?_
  refine xm_E_s r_X11_moved_124 rfl (xm_T_irem rfl (by decide)) ?_
  refine xm_E_s r_X11_moved_125 rfl rfl ?_
  refine xm_E_t q12 ?_
  refine xm_E_s r_X11_moved_128 rfl rfl ?_
  refine xm_E_s r_X11_moved_129 rfl rfl ?_
  refine xm_E_s r_X11_moved_130 rfl (xm_T_idiv rfl (by decide)) ?_
  refine xm_E_s r_X11_moved_131 rfl rfl ?_
  refine xm_E_s r_X11_moved_132 rfl rfl ?_
  refine xm_E_s r_X11_moved_133 rfl rfl ?_
  refine xm_E_s r_X11_moved_134 rfl rfl ?_
  refine xm_E_f q13 ?_
  refine xm_E_s r_X11_moved_137 rfl rfl ?_
  refine xm_E_s r_X11_moved_138 rfl rfl ?_
  refine xm_E_s r_X11_moved_139 rfl rfl ?_
  refine xm_E_s r_X11_moved_140 rfl rfl ?_
  refine xm_E_s r_X11_moved_141 rfl rfl ?_
  refine xm_E_cs [.int (r0 / (2 : Int32)), .int r1, .int r2, .int ((1 : Int32) - r3), .int (0 : Int32)] [] r_X11_moved_142 rfl rfl rfl (Nat.le_of_ble_eq_true rfl) rfl q14 ?_
  exact xm_E_iret r_X11_moved_143 rfl rfl
theorem w_X11_moved_0_16 {X : xm_X} {P : List xm_M} {d : Nat} {h : xm_H} {l0 : Nat} {l1 : Int32} {l2 : Int32} {h0 : xm_H} {r0 : Int32} {h1 : xm_H} {r1 : Int32} {h2 : xm_H} {r2 : Int32} {h3 : xm_H} {r3 : Int32} {h4 : xm_H} {r4 : Int32} {h5 : xm_H} {r5 : Int32} (q0 : xm_V X P d 224 [.int l1] h (some (.int r0)) h0) (q1 : xm_V X P d 225 [.int l1] h0 (some (.int r1)) h1) (q2 : xm_V X P d 226 [.int l1] h1 (some (.int r2)) h2) (q3 : xm_V X P d 227 [.int l1] h2 (some (.int r3)) h3) (q4 : xm_V X P d 228 [.int l1] h3 (some (.int r4)) h4) (q5 : ¬ (l2 = (9 : Int32))) (q6 : r4 = (0 : Int32)) (q7 : xm_V X P d 229 [.ref l0, .int l1, .int l2] h4 (some (.int r5)) h5) (q8 : X.1[l0]? = some (.inr 10)) (q9 : ¬ (r5 = (0 : Int32))) (q10 : h5.1 l0 16 = (0 : Int32)) (q11 : l2 = (3 : Int32)) (q12 : ¬ (r0 - r0 / (2 : Int32) * (2 : Int32) = (0 : Int32))) : xm_E X P d co_X11_moved 0 [some (.ref l0), some (.int l1), some (.int l2), none, none, none, none, none] [] h (some (.int (-1 : Int32))) h5 := by
  refine xm_E_s r_X11_moved_0 rfl rfl ?_
  refine xm_E_cs [.int l1] [] r_X11_moved_1 rfl rfl rfl (Nat.le_of_ble_eq_true rfl) rfl q0 ?_
  refine xm_E_s (ls1 := [some (.ref l0), some (.int l1), some (.int l2), some (.int r0), none, none, none, none]) r_X11_moved_2 rfl rfl ?_
  refine xm_E_s r_X11_moved_3 rfl rfl ?_
  refine xm_E_cs [.int l1] [] r_X11_moved_4 rfl rfl rfl (Nat.le_of_ble_eq_true rfl) rfl q1 ?_
  refine xm_E_s (ls1 := [some (.ref l0), some (.int l1), some (.int l2), some (.int r0), some (.int r1), none, none, none]) r_X11_moved_5 rfl rfl ?_
  refine xm_E_s r_X11_moved_6 rfl rfl ?_
  refine xm_E_cs [.int l1] [] r_X11_moved_7 rfl rfl rfl (Nat.le_of_ble_eq_true rfl) rfl q2 ?_
  refine xm_E_s (ls1 := [some (.ref l0), some (.int l1), some (.int l2), some (.int r0), some (.int r1), some (.int r2), none, none]) r_X11_moved_8 rfl rfl ?_
  refine xm_E_s r_X11_moved_9 rfl rfl ?_
  refine xm_E_cs [.int l1] [] r_X11_moved_10 rfl rfl rfl (Nat.le_of_ble_eq_true rfl) rfl q3 ?_
  refine xm_E_s (ls1 := [some (.ref l0), some (.int l1), some (.int l2), some (.int r0), some (.int r1), some (.int r2), some (.int r3), none]) r_X11_moved_11 rfl rfl ?_
  refine xm_E_s r_X11_moved_12 rfl rfl ?_
  refine xm_E_cs [.int l1] [] r_X11_moved_13 rfl rfl rfl (Nat.le_of_ble_eq_true rfl) rfl q4 ?_
  refine xm_E_s (ls1 := [some (.ref l0), some (.int l1), some (.int l2), some (.int r0), some (.int r1), some (.int r2), some (.int r3), some (.int r4)]) r_X11_moved_14 rfl rfl ?_
  refine xm_E_s r_X11_moved_15 rfl rfl ?_
  refine xm_E_s r_X11_moved_16 rfl rfl ?_
  refine xm_E_s r_X11_moved_17 rfl rfl ?_
  refine xm_E_f q5 ?_
  refine xm_E_s r_X11_moved_37 rfl rfl ?_
  refine xm_E_s r_X11_moved_38 rfl rfl ?_
  refine xm_E_t q6 ?_
  refine xm_E_s r_X11_moved_39 rfl rfl ?_
  refine xm_E_s r_X11_moved_40 rfl rfl ?_
  refine xm_E_s r_X11_moved_41 rfl rfl ?_
  refine xm_E_cv [.ref l0, .int l1, .int l2] [] r_X11_moved_42 rfl rfl (Nat.le_of_ble_eq_true rfl) (xm_rc q8 (by decide)) rfl q7 ?_
  refine xm_E_s r_X11_moved_43 rfl rfl ?_
  refine xm_E_f q9 ?_
  refine xm_E_s r_X11_moved_44 rfl rfl ?_
  refine xm_E_s r_X11_moved_45 rfl (xm_T_gi rfl q8 rfl (Or.inr rfl)) ?_
  refine xm_E_s r_X11_moved_46 rfl rfl ?_
  refine xm_E_t q10 ?_
  refine xm_E_s r_X11_moved_55 rfl rfl ?_
  refine xm_E_s r_X11_moved_56 rfl (xm_T_tab (3 : Int32) 122 rfl q11 (by decide) rfl) ?_
  refine xm_E_s r_X11_moved_122 rfl rfl ?_
  refine xm_E_s r_X11_moved_123 rfl rfl ?_
  refine xm_E_s r_X11_moved_124 rfl (xm_T_irem rfl (by decide)) ?_
  refine xm_E_s r_X11_moved_125 rfl rfl ?_
  refine xm_E_f q12 ?_
  refine xm_E_s r_X11_moved_126 rfl rfl ?_
  refine xm_E_s r_X11_moved_127 rfl rfl ?_
  exact xm_E_iret r_X11_moved_143 rfl rfl
theorem w_X11_moved_0_17 {X : xm_X} {P : List xm_M} {d : Nat} {h : xm_H} {l0 : Nat} {l1 : Int32} {l2 : Int32} {h0 : xm_H} {r0 : Int32} {h1 : xm_H} {r1 : Int32} {h2 : xm_H} {r2 : Int32} {h3 : xm_H} {r3 : Int32} {h4 : xm_H} {r4 : Int32} {h5 : xm_H} {r5 : Int32} {h6 : xm_H} {r6 : Int32} (q0 : xm_V X P d 224 [.int l1] h (some (.int r0)) h0) (q1 : xm_V X P d 225 [.int l1] h0 (some (.int r1)) h1) (q2 : xm_V X P d 226 [.int l1] h1 (some (.int r2)) h2) (q3 : xm_V X P d 227 [.int l1] h2 (some (.int r3)) h3) (q4 : xm_V X P d 228 [.int l1] h3 (some (.int r4)) h4) (q5 : ¬ (l2 = (9 : Int32))) (q6 : r4 = (0 : Int32)) (q7 : xm_V X P d 229 [.ref l0, .int l1, .int l2] h4 (some (.int r5)) h5) (q8 : X.1[l0]? = some (.inr 10)) (q9 : ¬ (r5 = (0 : Int32))) (q10 : h5.1 l0 16 = (0 : Int32)) (q11 : l2 = (4 : Int32)) (q12 : r0 - r0 / (2 : Int32) * (2 : Int32) = (0 : Int32)) (q13 : r2 = (3 : Int32)) (q14 : xm_V X P d 221 [.int (r0 / (2 : Int32)), .int r1, .int (2 : Int32), .int r3, .int (0 : Int32)] h5 (some (.int r6)) h6) : xm_E X P d co_X11_moved 0 [some (.ref l0), some (.int l1), some (.int l2), none, none, none, none, none] [] h (some (.int r6)) h6 := by
  refine xm_E_s r_X11_moved_0 rfl rfl ?_
  refine xm_E_cs [.int l1] [] r_X11_moved_1 rfl rfl rfl (Nat.le_of_ble_eq_true rfl) rfl q0 ?_
  refine xm_E_s (ls1 := [some (.ref l0), some (.int l1), some (.int l2), some (.int r0), none, none, none, none]) r_X11_moved_2 rfl rfl ?_
  refine xm_E_s r_X11_moved_3 rfl rfl ?_
  refine xm_E_cs [.int l1] [] r_X11_moved_4 rfl rfl rfl (Nat.le_of_ble_eq_true rfl) rfl q1 ?_
  refine xm_E_s (ls1 := [some (.ref l0), some (.int l1), some (.int l2), some (.int r0), some (.int r1), none, none, none]) r_X11_moved_5 rfl rfl ?_
  refine xm_E_s r_X11_moved_6 rfl rfl ?_
  refine xm_E_cs [.int l1] [] r_X11_moved_7 rfl rfl rfl (Nat.le_of_ble_eq_true rfl) rfl q2 ?_
  refine xm_E_s (ls1 := [some (.ref l0), some (.int l1), some (.int l2), some (.int r0), some (.int r1), some (.int r2), none, none]) r_X11_moved_8 rfl rfl ?_
  refine xm_E_s r_X11_moved_9 rfl rfl ?_
  refine xm_E_cs [.int l1] [] r_X11_moved_10 rfl rfl rfl (Nat.le_of_ble_eq_true rfl) rfl q3 ?_
  refine xm_E_s (ls1 := [some (.ref l0), some (.int l1), some (.int l2), some (.int r0), some (.int r1), some (.int r2), some (.int r3), none]) r_X11_moved_11 rfl rfl ?_
  refine xm_E_s r_X11_moved_12 rfl rfl ?_
  refine xm_E_cs [.int l1] [] r_X11_moved_13 rfl rfl rfl (Nat.le_of_ble_eq_true rfl) rfl q4 ?_
  refine xm_E_s (ls1 := [some (.ref l0), some (.int l1), some (.int l2), some (.int r0), some (.int r1), some (.int r2), some (.int r3), some (.int r4)]) r_X11_moved_14 rfl rfl ?_
  refine xm_E_s r_X11_moved_15 rfl rfl ?_
  refine xm_E_s r_X11_moved_16 rfl rfl ?_
  refine xm_E_s r_X11_moved_17 rfl rfl ?_
  refine xm_E_f q5 ?_
  refine xm_E_s r_X11_moved_37 rfl rfl ?_
  refine xm_E_s r_X11_moved_38 rfl rfl ?_
  refine xm_E_t q6 ?_
  refine xm_E_s r_X11_moved_39 rfl rfl ?_
  refine xm_E_s r_X11_moved_40 rfl rfl ?_
  refine xm_E_s r_X11_moved_41 rfl rfl ?_
  refine xm_E_cv [.ref l0, .int l1, .int l2] [] r_X11_moved_42 rfl rfl (Nat.le_of_ble_eq_true rfl) (xm_rc q8 (by decide)) rfl q7 ?_
  refine xm_E_s r_X11_moved_43 rfl rfl ?_
  refine xm_E_f q9 ?_
  refine xm_E_s r_X11_moved_44 rfl rfl ?_
  refine xm_E_s r_X11_moved_45 rfl (xm_T_gi rfl q8 rfl (Or.inr rfl)) ?_
  refine xm_E_s r_X11_moved_46 rfl rfl ?_
  refine xm_E_t q10 ?_
  refine xm_E_s r_X11_moved_55 rfl rfl ?_
  refine xm_E_s r_X11_moved_56 rfl (xm_T_tab (4 : Int32) 144 rfl q11 (by decide) rfl) ?_
  refine xm_E_s r_X11_moved_144 rfl rfl ?_
  refine xm_E_s r_X11_moved_145 rfl rfl ?_
  refine xm_E_s r_X11_moved_146 rfl (xm_T_irem rfl (by decide)) ?_
  refine xm_E_s r_X11_moved_147 rfl rfl ?_
  refine xm_E_t q12 ?_
  refine xm_E_s r_X11_moved_150 rfl rfl ?_
  refine xm_E_s r_X11_moved_151 rfl rfl ?_
  refine xm_E_s r_X11_moved_152 rfl (xm_T_idiv rfl (by decide)) ?_
  refine xm_E_s r_X11_moved_153 rfl rfl ?_
  refine xm_E_s r_X11_moved_154 rfl rfl ?_
  refine xm_E_s r_X11_moved_155 rfl rfl ?_
  refine xm_E_s r_X11_moved_156 rfl rfl ?_
  refine xm_E_t q13 ?_
  refine xm_E_s r_X11_moved_157 rfl rfl ?_
  refine xm_E_s r_X11_moved_158 rfl rfl ?_
  refine xm_E_s r_X11_moved_160 rfl rfl ?_
  refine xm_E_s r_X11_moved_161 rfl rfl ?_
  refine xm_E_cs [.int (r0 / (2 : Int32)), .int r1, .int (2 : Int32), .int r3, .int (0 : Int32)] [] r_X11_moved_162 rfl rfl rfl (Nat.le_of_ble_eq_true rfl) rfl q14 ?_
  exact xm_E_iret r_X11_moved_163 rfl rfl
theorem w_X11_moved_0_18 {X : xm_X} {P : List xm_M} {d : Nat} {h : xm_H} {l0 : Nat} {l1 : Int32} {l2 : Int32} {h0 : xm_H} {r0 : Int32} {h1 : xm_H} {r1 : Int32} {h2 : xm_H} {r2 : Int32} {h3 : xm_H} {r3 : Int32} {h4 : xm_H} {r4 : Int32} {h5 : xm_H} {r5 : Int32} {h6 : xm_H} {r6 : Int32} (q0 : xm_V X P d 224 [.int l1] h (some (.int r0)) h0) (q1 : xm_V X P d 225 [.int l1] h0 (some (.int r1)) h1) (q2 : xm_V X P d 226 [.int l1] h1 (some (.int r2)) h2) (q3 : xm_V X P d 227 [.int l1] h2 (some (.int r3)) h3) (q4 : xm_V X P d 228 [.int l1] h3 (some (.int r4)) h4) (q5 : ¬ (l2 = (9 : Int32))) (q6 : r4 = (0 : Int32)) (q7 : xm_V X P d 229 [.ref l0, .int l1, .int l2] h4 (some (.int r5)) h5) (q8 : X.1[l0]? = some (.inr 10)) (q9 : ¬ (r5 = (0 : Int32))) (q10 : h5.1 l0 16 = (0 : Int32)) (q11 : l2 = (4 : Int32)) (q12 : r0 - r0 / (2 : Int32) * (2 : Int32) = (0 : Int32)) (q13 : ¬ (r2 = (3 : Int32))) (q14 : xm_V X P d 221 [.int (r0 / (2 : Int32)), .int r1, .int r2, .int r3, .int (0 : Int32)] h5 (some (.int r6)) h6) : xm_E X P d co_X11_moved 0 [some (.ref l0), some (.int l1), some (.int l2), none, none, none, none, none] [] h (some (.int r6)) h6 := by
  refine xm_E_s r_X11_moved_0 rfl rfl ?_
  refine xm_E_cs [.int l1] [] r_X11_moved_1 rfl rfl rfl (Nat.le_of_ble_eq_true rfl) rfl q0 ?_
  refine xm_E_s (ls1 := [some (.ref l0), some (.int l1), some (.int l2), some (.int r0), none, none, none, none]) r_X11_moved_2 rfl rfl ?_
  refine xm_E_s r_X11_moved_3 rfl rfl ?_
  refine xm_E_cs [.int l1] [] r_X11_moved_4 rfl rfl rfl (Nat.le_of_ble_eq_true rfl) rfl q1 ?_
  refine xm_E_s (ls1 := [some (.ref l0), some (.int l1), some (.int l2), some (.int r0), some (.int r1), none, none, none]) r_X11_moved_5 rfl rfl ?_
  refine xm_E_s r_X11_moved_6 rfl rfl ?_
  refine xm_E_cs [.int l1] [] r_X11_moved_7 rfl rfl rfl (Nat.le_of_ble_eq_true rfl) rfl q2 ?_
  refine xm_E_s (ls1 := [some (.ref l0), some (.int l1), some (.int l2), some (.int r0), some (.int r1), some (.int r2), none, none]) r_X11_moved_8 rfl rfl ?_
  refine xm_E_s r_X11_moved_9 rfl rfl ?_
  refine xm_E_cs [.int l1] [] r_X11_moved_10 rfl rfl rfl (Nat.le_of_ble_eq_true rfl) rfl q3 ?_
  refine xm_E_s (ls1 := [some (.ref l0), some (.int l1), some (.int l2), some (.int r0), some (.int r1), some (.int r2), some (.int r3), none]) r_X11_moved_11 rfl rfl ?_
  refine xm_E_s r_X11_moved_12 rfl rfl ?_
  refine xm_E_cs [.int l1] [] r_X11_moved_13 rfl rfl rfl (Nat.le_of_ble_eq_true rfl) rfl q4 ?_
  refine xm_E_s (ls1 := [some (.ref l0), some (.int l1), some (.int l2), some (.int r0), some (.int r1), some (.int r2), some (.int r3), some (.int r4)]) r_X11_moved_14 rfl rfl ?_
  refine xm_E_s r_X11_moved_15 rfl rfl ?_
  refine xm_E_s r_X11_moved_16 rfl rfl ?_
  refine xm_E_s r_X11_moved_17 rfl rfl ?_
  refine xm_E_f q5 ?_
  refine xm_E_s r_X11_moved_37 rfl rfl ?_
  refine xm_E_s r_X11_moved_38 rfl rfl ?_
  refine xm_E_t q6 ?_
  refine xm_E_s r_X11_moved_39 rfl rfl ?_
  refine xm_E_s r_X11_moved_40 rfl rfl ?_
  refine xm_E_s r_X11_moved_41 rfl rfl ?_
  refine xm_E_cv [.ref l0, .int l1, .int l2] [] r_X11_moved_42 rfl rfl (Nat.le_of_ble_eq_true rfl) (xm_rc q8 (by decide)) rfl q7 ?_
  refine xm_E_s r_X11_moved_43 rfl rfl ?_
  refine xm_E_f q9 ?_
  refine xm_E_s r_X11_moved_44 rfl rfl ?_
  refine xm_E_s r_X11_moved_45 rfl (xm_T_gi rfl q8 rfl (Or.inr rfl)) ?_
  refine xm_E_s r_X11_moved_46 rfl rfl ?_
  refine xm_E_t q10 ?_
  refine xm_E_s r_X11_moved_55 rfl rfl ?_
  refine xm_E_s r_X11_moved_56 rfl (xm_T_tab (4 : Int32) 144 rfl q11 (by decide) rfl) ?_
  refine xm_E_s r_X11_moved_144 rfl rfl ?_
  refine xm_E_s r_X11_moved_145 rfl rfl ?_
  refine xm_E_s r_X11_moved_146 rfl (xm_T_irem rfl (by decide)) ?_
  refine xm_E_s r_X11_moved_147 rfl rfl ?_
  refine xm_E_t q12 ?_
  refine xm_E_s r_X11_moved_150 rfl rfl ?_
  refine xm_E_s r_X11_moved_151 rfl rfl ?_
  refine xm_E_s r_X11_moved_152 rfl (xm_T_idiv rfl (by decide)) ?_
  refine xm_E_s r_X11_moved_153 rfl rfl ?_
  refine xm_E_s r_X11_moved_154 rfl rfl ?_
  refine xm_E_s r_X11_moved_155 rfl rfl ?_
  refine xm_E_s r_X11_moved_156 rfl rfl ?_
  refine xm_E_f q13 ?_
  refine xm_E_s r_X11_moved_159 rfl rfl ?_
  refine xm_E_s r_X11_moved_160 rfl rfl ?_
  refine xm_E_s r_X11_moved_161 rfl rfl ?_
  refine xm_E_cs [.int (r0 / (2 : Int32)), .int r1, .int r2, .int r3, .int (0 : Int32)] [] r_X11_moved_162 rfl rfl rfl (Nat.le_of_ble_eq_true rfl) rfl q14 ?_
  exact xm_E_iret r_X11_moved_163 rfl rfl
theorem w_X11_moved_0_19 {X : xm_X} {P : List xm_M} {d : Nat} {h : xm_H} {l0 : Nat} {l1 : Int32} {l2 : Int32} {h0 : xm_H} {r0 : Int32} {h1 : xm_H} {r1 : Int32} {h2 : xm_H} {r2 : Int32} {h3 : xm_H} {r3 : Int32} {h4 : xm_H} {r4 : Int32} {h5 : xm_H} {r5 : Int32} (q0 : xm_V X P d 224 [.int l1] h (some (.int r0)) h0) (q1 : xm_V X P d 225 [.int l1] h0 (some (.int r1)) h1) (q2 : xm_V X P d 226 [.int l1] h1 (some (.int r2)) h2) (q3 : xm_V X P d 227 [.int l1] h2 (some (.int r3)) h3) (q4 : xm_V X P d 228 [.int l1] h3 (some (.int r4)) h4) (q5 : ¬ (l2 = (9 : Int32))) (q6 : r4 = (0 : Int32)) (q7 : xm_V X P d 229 [.ref l0, .int l1, .int l2] h4 (some (.int r5)) h5) (q8 : X.1[l0]? = some (.inr 10)) (q9 : ¬ (r5 = (0 : Int32))) (q10 : h5.1 l0 16 = (0 : Int32)) (q11 : l2 = (4 : Int32)) (q12 : ¬ (r0 - r0 / (2 : Int32) * (2 : Int32) = (0 : Int32))) : xm_E X P d co_X11_moved 0 [some (.ref l0), some (.int l1), some (.int l2), none, none, none, none, none] [] h (some (.int (-1 : Int32))) h5 := by
  refine xm_E_s r_X11_moved_0 rfl rfl ?_
  refine xm_E_cs [.int l1] [] r_X11_moved_1 rfl rfl rfl (Nat.le_of_ble_eq_true rfl) rfl q0 ?_
  refine xm_E_s (ls1 := [some (.ref l0), some (.int l1), some (.int l2), some (.int r0), none, none, none, none]) r_X11_moved_2 rfl rfl ?_
  refine xm_E_s r_X11_moved_3 rfl rfl ?_
  refine xm_E_cs [.int l1] [] r_X11_moved_4 rfl rfl rfl (Nat.le_of_ble_eq_true rfl) rfl q1 ?_
  refine xm_E_s (ls1 := [some (.ref l0), some (.int l1), some (.int l2), some (.int r0), some (.int r1), none, none, none]) r_X11_moved_5 rfl rfl ?_
  refine xm_E_s r_X11_moved_6 rfl rfl ?_
  refine xm_E_cs [.int l1] [] r_X11_moved_7 rfl rfl rfl (Nat.le_of_ble_eq_true rfl) rfl q2 ?_
  refine xm_E_s (ls1 := [some (.ref l0), some (.int l1), some (.int l2), some (.int r0), some (.int r1), some (.int r2), none, none]) r_X11_moved_8 rfl rfl ?_
  refine xm_E_s r_X11_moved_9 rfl rfl ?_
  refine xm_E_cs [.int l1] [] r_X11_moved_10 rfl rfl rfl (Nat.le_of_ble_eq_true rfl) rfl q3 ?_
  refine xm_E_s (ls1 := [some (.ref l0), some (.int l1), some (.int l2), some (.int r0), some (.int r1), some (.int r2), some (.int r3), none]) r_X11_moved_11 rfl rfl ?_
  refine xm_E_s r_X11_moved_12 rfl rfl ?_
  refine xm_E_cs [.int l1] [] r_X11_moved_13 rfl rfl rfl (Nat.le_of_ble_eq_true rfl) rfl q4 ?_
  refine xm_E_s (ls1 := [some (.ref l0), some (.int l1), some (.int l2), some (.int r0), some (.int r1), some (.int r2), some (.int r3), some (.int r4)]) r_X11_moved_14 rfl rfl ?_
  refine xm_E_s r_X11_moved_15 rfl rfl ?_
  refine xm_E_s r_X11_moved_16 rfl rfl ?_
  refine xm_E_s r_X11_moved_17 rfl rfl ?_
  refine xm_E_f q5 ?_
  refine xm_E_s r_X11_moved_37 rfl rfl ?_
  refine xm_E_s r_X11_moved_38 rfl rfl ?_
  refine xm_E_t q6 ?_
  refine xm_E_s r_X11_moved_39 rfl rfl ?_
  refine xm_E_s r_X11_moved_40 rfl rfl ?_
  refine xm_E_s r_X11_moved_41 rfl rfl ?_
  refine xm_E_cv [.ref l0, .int l1, .int l2] [] r_X11_moved_42 rfl rfl (Nat.le_of_ble_eq_true rfl) (xm_rc q8 (by decide)) rfl q7 ?_
  refine xm_E_s r_X11_moved_43 rfl rfl ?_
  refine xm_E_f q9 ?_
  refine xm_E_s r_X11_moved_44 rfl rfl ?_
  refine xm_E_s r_X11_moved_45 rfl (xm_T_gi rfl q8 rfl (Or.inr rfl)) ?_
  refine xm_E_s r_X11_moved_46 rfl rfl ?_
  refine xm_E_t q10 ?_
  refine xm_E_s r_X11_moved_55 rfl rfl ?_
  refine xm_E_s r_X11_moved_56 rfl (xm_T_tab (4 : Int32) 144 rfl q11 (by decide) rfl) ?_
  refine xm_E_s r_X11_moved_144 rfl rfl ?_
  refine xm_E_s r_X11_moved_145 rfl rfl ?_
  refine xm_E_s r_X11_moved_146 rfl (xm_T_irem rfl (by decide)) ?_
  refine xm_E_s r_X11_moved_147 rfl rfl ?_
  refine xm_E_f q12 ?_
  refine xm_E_s r_X11_moved_148 rfl rfl ?_
  refine xm_E_s r_X11_moved_149 rfl rfl ?_
  exact xm_E_iret r_X11_moved_163 rfl rfl
theorem w_X11_moved_0_20 {X : xm_X} {P : List xm_M} {d : Nat} {h : xm_H} {l0 : Nat} {l1 : Int32} {l2 : Int32} {h0 : xm_H} {r0 : Int32} {h1 : xm_H} {r1 : Int32} {h2 : xm_H} {r2 : Int32} {h3 : xm_H} {r3 : Int32} {h4 : xm_H} {r4 : Int32} {h5 : xm_H} {r5 : Int32} {h6 : xm_H} {r6 : Int32} (q0 : xm_V X P d 224 [.int l1] h (some (.int r0)) h0) (q1 : xm_V X P d 225 [.int l1] h0 (some (.int r1)) h1) (q2 : xm_V X P d 226 [.int l1] h1 (some (.int r2)) h2) (q3 : xm_V X P d 227 [.int l1] h2 (some (.int r3)) h3) (q4 : xm_V X P d 228 [.int l1] h3 (some (.int r4)) h4) (q5 : ¬ (l2 = (9 : Int32))) (q6 : r4 = (0 : Int32)) (q7 : xm_V X P d 229 [.ref l0, .int l1, .int l2] h4 (some (.int r5)) h5) (q8 : X.1[l0]? = some (.inr 10)) (q9 : ¬ (r5 = (0 : Int32))) (q10 : h5.1 l0 16 = (0 : Int32)) (q11 : l2 = (5 : Int32)) (q12 : r0 - r0 / (2 : Int32) * (2 : Int32) = (0 : Int32)) (q13 : r2 = (2 : Int32)) (q14 : xm_V X P d 221 [.int (r0 / (2 : Int32)), .int r1, .int (4 : Int32), .int ((1 : Int32) - r3), .int (0 : Int32)] h5 (some (.int r6)) h6) : xm_E X P d co_X11_moved 0 [some (.ref l0), some (.int l1), some (.int l2), none, none, none, none, none] [] h (some (.int r6)) h6 := by
  refine xm_E_s r_X11_moved_0 rfl rfl ?_
  refine xm_E_cs [.int l1] [] r_X11_moved_1 rfl rfl rfl (Nat.le_of_ble_eq_true rfl) rfl q0 ?_
  refine xm_E_s (ls1 := [some (.ref l0), some (.int l1), some (.int l2), some (.int r0), none, none, none, none]) r_X11_moved_2 rfl rfl ?_
  refine xm_E_s r_X11_moved_3 rfl rfl ?_
  refine xm_E_cs [.int l1] [] r_X11_moved_4 rfl rfl rfl (Nat.le_of_ble_eq_true rfl) rfl q1 ?_
  refine xm_E_s (ls1 := [some (.ref l0), some (.int l1), some (.int l2), some (.int r0), some (.int r1), none, none, none]) r_X11_moved_5 rfl rfl ?_
  refine xm_E_s r_X11_moved_6 rfl rfl ?_
  refine xm_E_cs [.int l1] [] r_X11_moved_7 rfl rfl rfl (Nat.le_of_ble_eq_true rfl) rfl q2 ?_
  refine xm_E_s (ls1 := [some (.ref l0), some (.int l1), some (.int l2), some (.int r0), some (.int r1), some (.int r2), none, none]) r_X11_moved_8 rfl rfl ?_
  refine xm_E_s r_X11_moved_9 rfl rfl ?_
  refine xm_E_cs [.int l1] [] r_X11_moved_10 rfl rfl rfl (Nat.le_of_ble_eq_true rfl) rfl q3 ?_
  refine xm_E_s (ls1 := [some (.ref l0), some (.int l1), some (.int l2), some (.int r0), some (.int r1), some (.int r2), some (.int r3), none]) r_X11_moved_11 rfl rfl ?_
  refine xm_E_s r_X11_moved_12 rfl rfl ?_
  refine xm_E_cs [.int l1] [] r_X11_moved_13 rfl rfl rfl (Nat.le_of_ble_eq_true rfl) rfl q4 ?_
  refine xm_E_s (ls1 := [some (.ref l0), some (.int l1), some (.int l2), some (.int r0), some (.int r1), some (.int r2), some (.int r3), some (.int r4)]) r_X11_moved_14 rfl rfl ?_
  refine xm_E_s r_X11_moved_15 rfl rfl ?_
  refine xm_E_s r_X11_moved_16 rfl rfl ?_
  refine xm_E_s r_X11_moved_17 rfl rfl ?_
  refine xm_E_f q5 ?_
  refine xm_E_s r_X11_moved_37 rfl rfl ?_
  refine xm_E_s r_X11_moved_38 rfl rfl ?_
  refine xm_E_t q6 ?_
  refine xm_E_s r_X11_moved_39 rfl rfl ?_
  refine xm_E_s r_X11_moved_40 rfl rfl ?_
  refine xm_E_s r_X11_moved_41 rfl rfl ?_
  refine xm_E_cv [.ref l0, .int l1, .int l2] [] r_X11_moved_42 rfl rfl (Nat.le_of_ble_eq_true rfl) (xm_rc q8 (by decide)) rfl q7 ?_
  refine xm_E_s r_X11_moved_43 rfl rfl ?_
  refine xm_E_f q9 ?_
  refine xm_E_s r_X11_moved_44 rfl rfl ?_
  refine xm_E_s r_X11_moved_45 rfl (xm_T_gi rfl q8 rfl (Or.inr rfl)) ?_
  refine xm_E_s r_X11_moved_46 rfl rfl ?_
  refine xm_E_t q10 ?_
  refine xm_E_s r_X11_moved_55 rfl rfl ?_
  refine xm_E_s r_X11_moved_56 rfl (xm_T_tab (5 : Int32) 164 rfl q11 (by decide) rfl) ?_
  refine xm_E_s r_X11_moved_164 rfl rfl ?_
  refine xm_E_s r_X11_moved_165 rfl rfl ?_
  refine xm_E_s r_X11_moved_166 rfl (xm_T_irem rfl (by decide)) ?_
  refine xm_E_s r_X11_moved_167 rfl rfl ?_
  refine xm_E_t q12 ?_
  refine xm_E_s r_X11_moved_170 rfl rfl ?_
  refine xm_E_s r_X11_moved_171 rfl rfl ?_
  refine xm_E_s r_X11_moved_172 rfl (xm_T_idiv rfl (by decide)) ?_
  refine xm_E_s r_X11_moved_173 rfl rfl ?_
  refine xm_E_s r_X11_moved_174 rfl rfl ?_
  refine xm_E_s r_X11_moved_175 rfl rfl ?_
  refine xm_E_s r_X11_moved_176 rfl rfl ?_
  refine xm_E_t q13 ?_
  refine xm_E_s r_X11_moved_180 rfl rfl ?_
  refine xm_E_s r_X11_moved_181 rfl rfl ?_
  refine xm_E_s r_X11_moved_183 rfl rfl ?_
  refine xm_E_s r_X11_moved_184 rfl rfl ?_
  refine xm_E_s r_X11_moved_185 rfl rfl ?_
  refine xm_E_s r_X11_moved_186 rfl rfl ?_
  refine xm_E_cs [.int (r0 / (2 : Int32)), .int r1, .int (4 : Int32), .int ((1 : Int32) - r3), .int (0 : Int32)] [] r_X11_moved_187 rfl rfl rfl (Nat.le_of_ble_eq_true rfl) rfl q14 ?_
  exact xm_E_iret r_X11_moved_188 rfl rfl
theorem w_X11_moved_0_21 {X : xm_X} {P : List xm_M} {d : Nat} {h : xm_H} {l0 : Nat} {l1 : Int32} {l2 : Int32} {h0 : xm_H} {r0 : Int32} {h1 : xm_H} {r1 : Int32} {h2 : xm_H} {r2 : Int32} {h3 : xm_H} {r3 : Int32} {h4 : xm_H} {r4 : Int32} {h5 : xm_H} {r5 : Int32} {h6 : xm_H} {r6 : Int32} (q0 : xm_V X P d 224 [.int l1] h (some (.int r0)) h0) (q1 : xm_V X P d 225 [.int l1] h0 (some (.int r1)) h1) (q2 : xm_V X P d 226 [.int l1] h1 (some (.int r2)) h2) (q3 : xm_V X P d 227 [.int l1] h2 (some (.int r3)) h3) (q4 : xm_V X P d 228 [.int l1] h3 (some (.int r4)) h4) (q5 : ¬ (l2 = (9 : Int32))) (q6 : r4 = (0 : Int32)) (q7 : xm_V X P d 229 [.ref l0, .int l1, .int l2] h4 (some (.int r5)) h5) (q8 : X.1[l0]? = some (.inr 10)) (q9 : ¬ (r5 = (0 : Int32))) (q10 : h5.1 l0 16 = (0 : Int32)) (q11 : l2 = (5 : Int32)) (q12 : r0 - r0 / (2 : Int32) * (2 : Int32) = (0 : Int32)) (q13 : ¬ (r2 = (2 : Int32))) (q14 : r2 = (3 : Int32)) (q15 : xm_V X P d 221 [.int (r0 / (2 : Int32)), .int r1, .int (4 : Int32), .int ((1 : Int32) - r3), .int (0 : Int32)] h5 (some (.int r6)) h6) : xm_E X P d co_X11_moved 0 [some (.ref l0), some (.int l1), some (.int l2), none, none, none, none, none] [] h (some (.int r6)) h6 := by
  refine xm_E_s r_X11_moved_0 rfl rfl ?_
  refine xm_E_cs [.int l1] [] r_X11_moved_1 rfl rfl rfl (Nat.le_of_ble_eq_true rfl) rfl q0 ?_
  refine xm_E_s (ls1 := [some (.ref l0), some (.int l1), some (.int l2), some (.int r0), none, none, none, none]) r_X11_moved_2 rfl rfl ?_
  refine xm_E_s r_X11_moved_3 rfl rfl ?_
  refine xm_E_cs [.int l1] [] r_X11_moved_4 rfl rfl rfl (Nat.le_of_ble_eq_true rfl) rfl q1 ?_
  refine xm_E_s (ls1 := [some (.ref l0), some (.int l1), some (.int l2), some (.int r0), some (.int r1), none, none, none]) r_X11_moved_5 rfl rfl ?_
  refine xm_E_s r_X11_moved_6 rfl rfl ?_
  refine xm_E_cs [.int l1] [] r_X11_moved_7 rfl rfl rfl (Nat.le_of_ble_eq_true rfl) rfl q2 ?_
  refine xm_E_s (ls1 := [some (.ref l0), some (.int l1), some (.int l2), some (.int r0), some (.int r1), some (.int r2), none, none]) r_X11_moved_8 rfl rfl ?_
  refine xm_E_s r_X11_moved_9 rfl rfl ?_
  refine xm_E_cs [.int l1] [] r_X11_moved_10 rfl rfl rfl (Nat.le_of_ble_eq_true rfl) rfl q3 ?_
  refine xm_E_s (ls1 := [some (.ref l0), some (.int l1), some (.int l2), some (.int r0), some (.int r1), some (.int r2), some (.int r3), none]) r_X11_moved_11 rfl rfl ?_
  refine xm_E_s r_X11_moved_12 rfl rfl ?_
  refine xm_E_cs [.int l1] [] r_X11_moved_13 rfl rfl rfl (Nat.le_of_ble_eq_true rfl) rfl q4 ?_
  refine xm_E_s (ls1 := [some (.ref l0), some (.int l1), some (.int l2), some (.int r0), some (.int r1), some (.int r2), some (.int r3), some (.int r4)]) r_X11_moved_14 rfl rfl ?_
  refine xm_E_s r_X11_moved_15 rfl rfl ?_
  refine xm_E_s r_X11_moved_16 rfl rfl ?_
  refine xm_E_s r_X11_moved_17 rfl rfl ?_
  refine xm_E_f q5 ?_
  refine xm_E_s r_X11_moved_37 rfl rfl ?_
  refine xm_E_s r_X11_moved_38 rfl rfl ?_
  refine xm_E_t q6 ?_
  refine xm_E_s r_X11_moved_39 rfl rfl ?_
  refine xm_E_s r_X11_moved_40 rfl rfl ?_
  refine xm_E_s r_X11_moved_41 rfl rfl ?_
  refine xm_E_cv [.ref l0, .int l1, .int l2] [] r_X11_moved_42 rfl rfl (Nat.le_of_ble_eq_true rfl) (xm_rc q8 (by decide)) rfl q7 ?_
  refine xm_E_s r_X11_moved_43 rfl rfl ?_
  refine xm_E_f q9 ?_
  refine xm_E_s r_X11_moved_44 rfl rfl ?_
  refine xm_E_s r_X11_moved_45 rfl (xm_T_gi rfl q8 rfl (Or.inr rfl)) ?_
  refine xm_E_s r_X11_moved_46 rfl rfl ?_
  refine xm_E_t q10 ?_
  refine xm_E_s r_X11_moved_55 rfl rfl ?_
  refine xm_E_s r_X11_moved_56 rfl (xm_T_tab (5 : Int32) 164 rfl q11 (by decide) rfl) ?_
  refine xm_E_s r_X11_moved_164 rfl rfl ?_
  refine xm_E_s r_X11_moved_165 rfl rfl ?_
  refine xm_E_s r_X11_moved_166 rfl (xm_T_irem rfl (by decide)) ?_
  refine xm_E_s r_X11_moved_167 rfl rfl ?_
  refine xm_E_t q12 ?_
  refine xm_E_s r_X11_moved_170 rfl rfl ?_
  refine xm_E_s r_X11_moved_171 rfl rfl ?_
  refine xm_E_s r_X11_moved_172 rfl (xm_T_idiv rfl (by decide)) ?_
  refine xm_E_s r_X11_moved_173 rfl rfl ?_
  refine xm_E_s r_X11_moved_174 rfl rfl ?_
  refine xm_E_s r_X11_moved_175 rfl rfl ?_
  refine xm_E_s r_X11_moved_176 rfl rfl ?_
  refine xm_E_f q13 ?_
  refine xm_E_s r_X11_moved_177 rfl rfl ?_
  refine xm_E_s r_X11_moved_178 rfl rfl ?_
  refine xm_E_s r_X11_moved_179 rfl rfl ?_
  refine xm_E_t q14 ?_
  refine xm_E_s r_X11_moved_180 rfl rfl ?_
  refine xm_E_s r_X11_moved_181 rfl rfl ?_
  refine xm_E_s r_X11_moved_183 rfl rfl ?_
  refine xm_E_s r_X11_moved_184 rfl rfl ?_
  refine xm_E_s r_X11_moved_185 rfl rfl ?_
  refine xm_E_s r_X11_moved_186 rfl rfl ?_
  refine xm_E_cs [.int (r0 / (2 : Int32)), .int r1, .int (4 : Int32), .int ((1 : Int32) - r3), .int (0 : Int32)] [] r_X11_moved_187 rfl rfl rfl (Nat.le_of_ble_eq_true rfl) rfl q15 ?_
  exact xm_E_iret r_X11_moved_188 rfl rfl
theorem w_X11_moved_0_22 {X : xm_X} {P : List xm_M} {d : Nat} {h : xm_H} {l0 : Nat} {l1 : Int32} {l2 : Int32} {h0 : xm_H} {r0 : Int32} {h1 : xm_H} {r1 : Int32} {h2 : xm_H} {r2 : Int32} {h3 : xm_H} {r3 : Int32} {h4 : xm_H} {r4 : Int32} {h5 : xm_H} {r5 : Int32} {h6 : xm_H} {r6 : Int32} (q0 : xm_V X P d 224 [.int l1] h (some (.int r0)) h0) (q1 : xm_V X P d 225 [.int l1] h0 (some (.int r1)) h1) (q2 : xm_V X P d 226 [.int l1] h1 (some (.int r2)) h2) (q3 : xm_V X P d 227 [.int l1] h2 (some (.int r3)) h3) (q4 : xm_V X P d 228 [.int l1] h3 (some (.int r4)) h4) (q5 : ¬ (l2 = (9 : Int32))) (q6 : r4 = (0 : Int32)) (q7 : xm_V X P d 229 [.ref l0, .int l1, .int l2] h4 (some (.int r5)) h5) (q8 : X.1[l0]? = some (.inr 10)) (q9 : ¬ (r5 = (0 : Int32))) (q10 : h5.1 l0 16 = (0 : Int32)) (q11 : l2 = (5 : Int32)) (q12 : r0 - r0 / (2 : Int32) * (2 : Int32) = (0 : Int32)) (q13 : ¬ (r2 = (2 : Int32))) (q14 : ¬ (r2 = (3 : Int32))) (q15 : xm_V X P d 221 [.int (r0 / (2 : Int32)), .int r1, .int r2, .int ((1 : Int32) - r3), .int (0 : Int32)] h5 (some (.int r6)) h6) : xm_E X P d co_X11_moved 0 [some (.ref l0), some (.int l1), some (.int l2), none, none, none, none, none] [] h (some (.int r6)) h6 := by
  refine xm_E_s r_X11_moved_0 rfl rfl ?_
  refine xm_E_cs [.int l1] [] r_X11_moved_1 rfl rfl rfl (Nat.le_of_ble_eq_true rfl) rfl q0 ?_
  refine xm_E_s (ls1 := [some (.ref l0), some (.int l1), some (.int l2), some (.int r0), none, none, none, none]) r_X11_moved_2 rfl rfl ?_
  refine xm_E_s r_X11_moved_3 rfl rfl ?_
  refine xm_E_cs [.int l1] [] r_X11_moved_4 rfl rfl rfl (Nat.le_of_ble_eq_true rfl) rfl q1 ?_
  refine xm_E_s (ls1 := [some (.ref l0), some (.int l1), some (.int l2), some (.int r0), some (.int r1), none, none, none]) r_X11_moved_5 rfl rfl ?_
  refine xm_E_s r_X11_moved_6 rfl rfl ?_
  refine xm_E_cs [.int l1] [] r_X11_moved_7 rfl rfl rfl (Nat.le_of_ble_eq_true rfl) rfl q2 ?_
  refine xm_E_s (ls1 := [some (.ref l0), some (.int l1), some (.int l2), some (.int r0), some (.int r1), some (.int r2), none, none]) r_X11_moved_8 rfl rfl ?_
  refine xm_E_s r_X11_moved_9 rfl rfl ?_
  refine xm_E_cs [.int l1] [] r_X11_moved_10 rfl rfl rfl (Nat.le_of_ble_eq_true rfl) rfl q3 ?_
  refine xm_E_s (ls1 := [some (.ref l0), some (.int l1), some (.int l2), some (.int r0), some (.int r1), some (.int r2), some (.int r3), none]) r_X11_moved_11 rfl rfl ?_
  refine xm_E_s r_X11_moved_12 rfl rfl ?_
  refine xm_E_cs [.int l1] [] r_X11_moved_13 rfl rfl rfl (Nat.le_of_ble_eq_true rfl) rfl q4 ?_
  refine xm_E_s (ls1 := [some (.ref l0), some (.int l1), some (.int l2), some (.int r0), some (.int r1), some (.int r2), some (.int r3), some (.int r4)]) r_X11_moved_14 rfl rfl ?_
  refine xm_E_s r_X11_moved_15 rfl rfl ?_
  refine xm_E_s r_X11_moved_16 rfl rfl ?_
  refine xm_E_s r_X11_moved_17 rfl rfl ?_
  refine xm_E_f q5 ?_
  refine xm_E_s r_X11_moved_37 rfl rfl ?_
  refine xm_E_s r_X11_moved_38 rfl rfl ?_
  refine xm_E_t q6 ?_
  refine xm_E_s r_X11_moved_39 rfl rfl ?_
  refine xm_E_s r_X11_moved_40 rfl rfl ?_
  refine xm_E_s r_X11_moved_41 rfl rfl ?_
  refine xm_E_cv [.ref l0, .int l1, .int l2] [] r_X11_moved_42 rfl rfl (Nat.le_of_ble_eq_true rfl) (xm_rc q8 (by decide)) rfl q7 ?_
  refine xm_E_s r_X11_moved_43 rfl rfl ?_
  refine xm_E_f q9 ?_
  refine xm_E_s r_X11_moved_44 rfl rfl ?_
  refine xm_E_s r_X11_moved_45 rfl (xm_T_gi rfl q8 rfl (Or.inr rfl)) ?_
  refine xm_E_s r_X11_moved_46 rfl rfl ?_
  refine xm_E_t q10 ?_
  refine xm_E_s r_X11_moved_55 rfl rfl ?_
  refine xm_E_s r_X11_moved_56 rfl (xm_T_tab (5 : Int32) 164 rfl q11 (by decide) rfl) ?_
  refine xm_E_s r_X11_moved_164 rfl rfl ?_
  refine xm_E_s r_X11_moved_165 rfl rfl ?_
  refine xm_E_s r_X11_moved_166 rfl (xm_T_irem rfl (by decide)) ?_
  refine xm_E_s r_X11_moved_167 rfl rfl ?_
  refine xm_E_t q12 ?_
  refine xm_E_s r_X11_moved_170 rfl rfl ?_
  refine xm_E_s r_X11_moved_171 rfl rfl ?_
  refine xm_E_s r_X11_moved_172 rfl (xm_T_idiv rfl (by decide)) ?_
  refine xm_E_s r_X11_moved_173 rfl rfl ?_
  refine xm_E_s r_X11_moved_174 rfl rfl ?_
  refine xm_E_s r_X11_moved_175 rfl rfl ?_
  refine xm_E_s r_X11_moved_176 rfl rfl ?_
  refine xm_E_f q13 ?_
  refine xm_E_s r_X11_moved_177 rfl rfl ?_
  refine xm_E_s r_X11_moved_178 rfl rfl ?_
  refine xm_E_s r_X11_moved_179 rfl rfl ?_
  refine xm_E_f q14 ?_
  refine xm_E_s r_X11_moved_182 rfl rfl ?_
  refine xm_E_s r_X11_moved_183 rfl rfl ?_
  refine xm_E_s r_X11_moved_184 rfl rfl ?_
  refine xm_E_s r_X11_moved_185 rfl rfl ?_
  refine xm_E_s r_X11_moved_186 rfl rfl ?_
  refine xm_E_cs [.int (r0 / (2 : Int32)), .int r1, .int r2, .int ((1 : Int32) - r3), .int (0 : Int32)] [] r_X11_moved_187 rfl rfl rfl (Nat.le_of_ble_eq_true rfl) rfl q15 ?_
  exact xm_E_iret r_X11_moved_188 rfl rfl
theorem w_X11_moved_0_23 {X : xm_X} {P : List xm_M} {d : Nat} {h : xm_H} {l0 : Nat} {l1 : Int32} {l2 : Int32} {h0 : xm_H} {r0 : Int32} {h1 : xm_H} {r1 : Int32} {h2 : xm_H} {r2 : Int32} {h3 : xm_H} {r3 : Int32} {h4 : xm_H} {r4 : Int32} {h5 : xm_H} {r5 : Int32} (q0 : xm_V X P d 224 [.int l1] h (some (.int r0)) h0) (q1 : xm_V X P d 225 [.int l1] h0 (some (.int r1)) h1) (q2 : xm_V X P d 226 [.int l1] h1 (some (.int r2)) h2) (q3 : xm_V X P d 227 [.int l1] h2 (some (.int r3)) h3) (q4 : xm_V X P d 228 [.int l1] h3 (some (.int r4)) h4) (q5 : ¬ (l2 = (9 : Int32))) (q6 : r4 = (0 : Int32)) (q7 : xm_V X P d 229 [.ref l0, .int l1, .int l2] h4 (some (.int r5)) h5) (q8 : X.1[l0]? = some (.inr 10)) (q9 : ¬ (r5 = (0 : Int32))) (q10 : h5.1 l0 16 = (0 : Int32)) (q11 : l2 = (5 : Int32)) (q12 : ¬ (r0 - r0 / (2 : Int32) * (2 : Int32) = (0 : Int32))) : xm_E X P d co_X11_moved 0 [some (.ref l0), some (.int l1), some (.int l2), none, none, none, none, none] [] h (some (.int (-1 : Int32))) h5 := by
  refine xm_E_s r_X11_moved_0 rfl rfl ?_
  refine xm_E_cs [.int l1] [] r_X11_moved_1 rfl rfl rfl (Nat.le_of_ble_eq_true rfl) rfl q0 ?_
  refine xm_E_s (ls1 := [some (.ref l0), some (.int l1), some (.int l2), some (.int r0), none, none, none, none]) r_X11_moved_2 rfl rfl ?_
  refine xm_E_s r_X11_moved_3 rfl rfl ?_
  refine xm_E_cs [.int l1] [] r_X11_moved_4 rfl rfl rfl (Nat.le_of_ble_eq_true rfl) rfl q1 ?_
  refine xm_E_s (ls1 := [some (.ref l0), some (.int l1), some (.int l2), some (.int r0), some (.int r1), none, none, none]) r_X11_moved_5 rfl rfl ?_
  refine xm_E_s r_X11_moved_6 rfl rfl ?_
  refine xm_E_cs [.int l1] [] r_X11_moved_7 rfl rfl rfl (Nat.le_of_ble_eq_true rfl) rfl q2 ?_
  refine xm_E_s (ls1 := [some (.ref l0), some (.int l1), some (.int l2), some (.int r0), some (.int r1), some (.int r2), none, none]) r_X11_moved_8 rfl rfl ?_
  refine xm_E_s r_X11_moved_9 rfl rfl ?_
  refine xm_E_cs [.int l1] [] r_X11_moved_10 rfl rfl rfl (Nat.le_of_ble_eq_true rfl) rfl q3 ?_
  refine xm_E_s (ls1 := [some (.ref l0), some (.int l1), some (.int l2), some (.int r0), some (.int r1), some (.int r2), some (.int r3), none]) r_X11_moved_11 rfl rfl ?_
  refine xm_E_s r_X11_moved_12 rfl rfl ?_
  refine xm_E_cs [.int l1] [] r_X11_moved_13 rfl rfl rfl (Nat.le_of_ble_eq_true rfl) rfl q4 ?_
  refine xm_E_s (ls1 := [some (.ref l0), some (.int l1), some (.int l2), some (.int r0), some (.int r1), some (.int r2), some (.int r3), some (.int r4)]) r_X11_moved_14 rfl rfl ?_
  refine xm_E_s r_X11_moved_15 rfl rfl ?_
  refine xm_E_s r_X11_moved_16 rfl rfl ?_
  refine xm_E_s r_X11_moved_17 rfl rfl ?_
  refine xm_E_f q5 ?_
  refine xm_E_s r_X11_moved_37 rfl rfl ?_
  refine xm_E_s r_X11_moved_38 rfl rfl ?_
  refine xm_E_t q6 ?_
  refine xm_E_s r_X11_moved_39 rfl rfl ?_
  refine xm_E_s r_X11_moved_40 rfl rfl ?_
  refine xm_E_s r_X11_moved_41 rfl rfl ?_
  refine xm_E_cv [.ref l0, .int l1, .int l2] [] r_X11_moved_42 rfl rfl (Nat.le_of_ble_eq_true rfl) (xm_rc q8 (by decide)) rfl q7 ?_
  refine xm_E_s r_X11_moved_43 rfl rfl ?_
  refine xm_E_f q9 ?_
  refine xm_E_s r_X11_moved_44 rfl rfl ?_
  refine xm_E_s r_X11_moved_45 rfl (xm_T_gi rfl q8 rfl (Or.inr rfl)) ?_
  refine xm_E_s r_X11_moved_46 rfl rfl ?_
  refine xm_E_t q10 ?_
  refine xm_E_s r_X11_moved_55 rfl rfl ?_
  refine xm_E_s r_X11_moved_56 rfl (xm_T_tab (5 : Int32) 164 rfl q11 (by decide) rfl) ?_
  refine xm_E_s r_X11_moved_164 rfl rfl ?_
  refine xm_E_s r_X11_moved_165 rfl rfl ?_
  refine xm_E_s r_X11_moved_166 rfl (xm_T_irem rfl (by decide)) ?_
  refine xm_E_s r_X11_moved_167 rfl rfl ?_
  refine xm_E_f q12 ?_
  refine xm_E_s r_X11_moved_168 rfl rfl ?_
  refine xm_E_s r_X11_moved_169 rfl rfl ?_
  exact xm_E_iret r_X11_moved_188 rfl rfl
theorem w_X11_moved_0_24 {X : xm_X} {P : List xm_M} {d : Nat} {h : xm_H} {l0 : Nat} {l1 : Int32} {l2 : Int32} {h0 : xm_H} {r0 : Int32} {h1 : xm_H} {r1 : Int32} {h2 : xm_H} {r2 : Int32} {h3 : xm_H} {r3 : Int32} {h4 : xm_H} {r4 : Int32} {h5 : xm_H} {r5 : Int32} {h6 : xm_H} {r6 : Int32} {h7 : xm_H} {r7 : Int32} (q0 : xm_V X P d 224 [.int l1] h (some (.int r0)) h0) (q1 : xm_V X P d 225 [.int l1] h0 (some (.int r1)) h1) (q2 : xm_V X P d 226 [.int l1] h1 (some (.int r2)) h2) (q3 : xm_V X P d 227 [.int l1] h2 (some (.int r3)) h3) (q4 : xm_V X P d 228 [.int l1] h3 (some (.int r4)) h4) (q5 : ¬ (l2 = (9 : Int32))) (q6 : r4 = (0 : Int32)) (q7 : xm_V X P d 229 [.ref l0, .int l1, .int l2] h4 (some (.int r5)) h5) (q8 : X.1[l0]? = some (.inr 10)) (q9 : ¬ (r5 = (0 : Int32))) (q10 : h5.1 l0 16 = (0 : Int32)) (q11 : l2 = (6 : Int32)) (q12 : xm_V X P d 230 [.int r2, .int (0 : Int32), .int (1 : Int32)] h5 (some (.int r6)) h6) (q13 : xm_V X P d 221 [.int r0, .int r1, .int r6, .int ((1 : Int32) - r3), .int (0 : Int32)] h6 (some (.int r7)) h7) : xm_E X P d co_X11_moved 0 [some (.ref l0), some (.int l1), some (.int l2), none, none, none, none, none] [] h (some (.int r7)) h7 := by
  refine xm_E_s r_X11_moved_0 rfl rfl ?_
  refine xm_E_cs [.int l1] [] r_X11_moved_1 rfl rfl rfl (Nat.le_of_ble_eq_true rfl) rfl q0 ?_
  refine xm_E_s (ls1 := [some (.ref l0), some (.int l1), some (.int l2), some (.int r0), none, none, none, none]) r_X11_moved_2 rfl rfl ?_
  refine xm_E_s r_X11_moved_3 rfl rfl ?_
  refine xm_E_cs [.int l1] [] r_X11_moved_4 rfl rfl rfl (Nat.le_of_ble_eq_true rfl) rfl q1 ?_
  refine xm_E_s (ls1 := [some (.ref l0), some (.int l1), some (.int l2), some (.int r0), some (.int r1), none, none, none]) r_X11_moved_5 rfl rfl ?_
  refine xm_E_s r_X11_moved_6 rfl rfl ?_
  refine xm_E_cs [.int l1] [] r_X11_moved_7 rfl rfl rfl (Nat.le_of_ble_eq_true rfl) rfl q2 ?_
  refine xm_E_s (ls1 := [some (.ref l0), some (.int l1), some (.int l2), some (.int r0), some (.int r1), some (.int r2), none, none]) r_X11_moved_8 rfl rfl ?_
  refine xm_E_s r_X11_moved_9 rfl rfl ?_
  refine xm_E_cs [.int l1] [] r_X11_moved_10 rfl rfl rfl (Nat.le_of_ble_eq_true rfl) rfl q3 ?_
  refine xm_E_s (ls1 := [some (.ref l0), some (.int l1), some (.int l2), some (.int r0), some (.int r1), some (.int r2), some (.int r3), none]) r_X11_moved_11 rfl rfl ?_
  refine xm_E_s r_X11_moved_12 rfl rfl ?_
  refine xm_E_cs [.int l1] [] r_X11_moved_13 rfl rfl rfl (Nat.le_of_ble_eq_true rfl) rfl q4 ?_
  refine xm_E_s (ls1 := [some (.ref l0), some (.int l1), some (.int l2), some (.int r0), some (.int r1), some (.int r2), some (.int r3), some (.int r4)]) r_X11_moved_14 rfl rfl ?_
  refine xm_E_s r_X11_moved_15 rfl rfl ?_
  refine xm_E_s r_X11_moved_16 rfl rfl ?_
  refine xm_E_s r_X11_moved_17 rfl rfl ?_
  refine xm_E_f q5 ?_
  refine xm_E_s r_X11_moved_37 rfl rfl ?_
  refine xm_E_s r_X11_moved_38 rfl rfl ?_
  refine xm_E_t q6 ?_
  refine xm_E_s r_X11_moved_39 rfl rfl ?_
  refine xm_E_s r_X11_moved_40 rfl rfl ?_
  refine xm_E_s r_X11_moved_41 rfl rfl ?_
  refine xm_E_cv [.ref l0, .int l1, .int l2] [] r_X11_moved_42 rfl rfl (Nat.le_of_ble_eq_true rfl) (xm_rc q8 (by decide)) rfl q7 ?_
  refine xm_E_s r_X11_moved_43 rfl rfl ?_
  refine xm_E_f q9 ?_
  refine xm_E_s r_X11_moved_44 rfl rfl ?_
  refine xm_E_s r_X11_moved_45 rfl (xm_T_gi rfl q8 rfl (Or.inr rfl)) ?_
  refine xm_E_s r_X11_moved_46 rfl rfl ?_
  refine xm_E_t q10 ?_
  refine xm_E_s r_X11_moved_55 rfl rfl ?_
  refine xm_E_s r_X11_moved_56 rfl (xm_T_tab (6 : Int32) 189 rfl q11 (by decide) rfl) ?_
  refine xm_E_s r_X11_moved_189 rfl rfl ?_
  refine xm_E_s r_X11_moved_190 rfl rfl ?_
  refine xm_E_s r_X11_moved_191 rfl rfl ?_
  refine xm_E_s r_X11_moved_192 rfl rfl ?_
  refine xm_E_s r_X11_moved_193 rfl rfl ?_
  refine xm_E_cs [.int r2, .int (0 : Int32), .int (1 : Int32)] [.int r1, .int r0] r_X11_moved_194 rfl rfl rfl (Nat.le_of_ble_eq_true rfl) rfl q12 ?_
  refine xm_E_s r_X11_moved_195 rfl rfl ?_
  refine xm_E_s r_X11_moved_196 rfl rfl ?_
  refine xm_E_s r_X11_moved_197 rfl rfl ?_
  refine xm_E_s r_X11_moved_198 rfl rfl ?_
  refine xm_E_cs [.int r0, .int r1, .int r6, .int ((1 : Int32) - r3), .int (0 : Int32)] [] r_X11_moved_199 rfl rfl rfl (Nat.le_of_ble_eq_true rfl) rfl q13 ?_
  exact xm_E_iret r_X11_moved_200 rfl rfl
theorem w_X11_moved_0_25 {X : xm_X} {P : List xm_M} {d : Nat} {h : xm_H} {l0 : Nat} {l1 : Int32} {l2 : Int32} {h0 : xm_H} {r0 : Int32} {h1 : xm_H} {r1 : Int32} {h2 : xm_H} {r2 : Int32} {h3 : xm_H} {r3 : Int32} {h4 : xm_H} {r4 : Int32} {h5 : xm_H} {r5 : Int32} {h6 : xm_H} {r6 : Int32} {h7 : xm_H} {r7 : Int32} {h8 : xm_H} {r8 : Int32} (q0 : xm_V X P d 224 [.int l1] h (some (.int r0)) h0) (q1 : xm_V X P d 225 [.int l1] h0 (some (.int r1)) h1) (q2 : xm_V X P d 226 [.int l1] h1 (some (.int r2)) h2) (q3 : xm_V X P d 227 [.int l1] h2 (some (.int r3)) h3) (q4 : xm_V X P d 228 [.int l1] h3 (some (.int r4)) h4) (q5 : ¬ (l2 = (9 : Int32))) (q6 : r4 = (0 : Int32)) (q7 : xm_V X P d 229 [.ref l0, .int l1, .int l2] h4 (some (.int r5)) h5) (q8 : X.1[l0]? = some (.inr 10)) (q9 : ¬ (r5 = (0 : Int32))) (q10 : h5.1 l0 16 = (0 : Int32)) (q11 : l2 = (7 : Int32)) (q12 : xm_V X P d 230 [.int r2, .int (0 : Int32), .int (1 : Int32)] h5 (some (.int r6)) h6) (q13 : xm_V X P d 230 [.int r6, .int (2 : Int32), .int (3 : Int32)] h6 (some (.int r7)) h7) (q14 : xm_V X P d 221 [.int r0, .int r1, .int r7, .int r3, .int (0 : Int32)] h7 (some (.int r8)) h8) : xm_E X P d co_X11_moved 0 [some (.ref l0), some (.int l1), some (.int l2), none, none, none, none, none] [] h (some (.int r8)) h8 := by
  refine xm_E_s r_X11_moved_0 rfl rfl ?_
  refine xm_E_cs [.int l1] [] r_X11_moved_1 rfl rfl rfl (Nat.le_of_ble_eq_true rfl) rfl q0 ?_
  refine xm_E_s (ls1 := [some (.ref l0), some (.int l1), some (.int l2), some (.int r0), none, none, none, none]) r_X11_moved_2 rfl rfl ?_
  refine xm_E_s r_X11_moved_3 rfl rfl ?_
  refine xm_E_cs [.int l1] [] r_X11_moved_4 rfl rfl rfl (Nat.le_of_ble_eq_true rfl) rfl q1 ?_
  refine xm_E_s (ls1 := [some (.ref l0), some (.int l1), some (.int l2), some (.int r0), some (.int r1), none, none, none]) r_X11_moved_5 rfl rfl ?_
  refine xm_E_s r_X11_moved_6 rfl rfl ?_
  refine xm_E_cs [.int l1] [] r_X11_moved_7 rfl rfl rfl (Nat.le_of_ble_eq_true rfl) rfl q2 ?_
  refine xm_E_s (ls1 := [some (.ref l0), some (.int l1), some (.int l2), some (.int r0), some (.int r1), some (.int r2), none, none]) r_X11_moved_8 rfl rfl ?_
  refine xm_E_s r_X11_moved_9 rfl rfl ?_
  refine xm_E_cs [.int l1] [] r_X11_moved_10 rfl rfl rfl (Nat.le_of_ble_eq_true rfl) rfl q3 ?_
  refine xm_E_s (ls1 := [some (.ref l0), some (.int l1), some (.int l2), some (.int r0), some (.int r1), some (.int r2), some (.int r3), none]) r_X11_moved_11 rfl rfl ?_
  refine xm_E_s r_X11_moved_12 rfl rfl ?_
  refine xm_E_cs [.int l1] [] r_X11_moved_13 rfl rfl rfl (Nat.le_of_ble_eq_true rfl) rfl q4 ?_
  refine xm_E_s (ls1 := [some (.ref l0), some (.int l1), some (.int l2), some (.int r0), some (.int r1), some (.int r2), some (.int r3), some (.int r4)]) r_X11_moved_14 rfl rfl ?_
  refine xm_E_s r_X11_moved_15 rfl rfl ?_
  refine xm_E_s r_X11_moved_16 rfl rfl ?_
  refine xm_E_s r_X11_moved_17 rfl rfl ?_
  refine xm_E_f q5 ?_
  refine xm_E_s r_X11_moved_37 rfl rfl ?_
  refine xm_E_s r_X11_moved_38 rfl rfl ?_
  refine xm_E_t q6 ?_
  refine xm_E_s r_X11_moved_39 rfl rfl ?_
  refine xm_E_s r_X11_moved_40 rfl rfl ?_
  refine xm_E_s r_X11_moved_41 rfl rfl ?_
  refine xm_E_cv [.ref l0, .int l1, .int l2] [] r_X11_moved_42 rfl rfl (Nat.le_of_ble_eq_true rfl) (xm_rc q8 (by decide)) rfl q7 ?_
  refine xm_E_s r_X11_moved_43 rfl rfl ?_
  refine xm_E_f q9 ?_
  refine xm_E_s r_X11_moved_44 rfl rfl ?_
  refine xm_E_s r_X11_moved_45 rfl (xm_T_gi rfl q8 rfl (Or.inr rfl)) ?_
  refine xm_E_s r_X11_moved_46 rfl rfl ?_
  refine xm_E_t q10 ?_
  refine xm_E_s r_X11_moved_55 rfl rfl ?_
  refine xm_E_s r_X11_moved_56 rfl (xm_T_tab (7 : Int32) 201 rfl q11 (by decide) rfl) ?_
  refine xm_E_s r_X11_moved_201 rfl rfl ?_
  refine xm_E_s r_X11_moved_202 rfl rfl ?_
  refine xm_E_s r_X11_moved_203 rfl rfl ?_
  refine xm_E_s r_X11_moved_204 rfl rfl ?_
  refine xm_E_s r_X11_moved_205 rfl rfl ?_
  refine xm_E_cs [.int r2, .int (0 : Int32), .int (1 : Int32)] [.int r1, .int r0] r_X11_moved_206 rfl rfl rfl (Nat.le_of_ble_eq_true rfl) rfl q12 ?_
  refine xm_E_s r_X11_moved_207 rfl rfl ?_
  refine xm_E_s r_X11_moved_208 rfl rfl ?_
  refine xm_E_cs [.int r6, .int (2 : Int32), .int (3 : Int32)] [.int r1, .int r0] r_X11_moved_209 rfl rfl rfl (Nat.le_of_ble_eq_true rfl) rfl q13 ?_
  refine xm_E_s r_X11_moved_210 rfl rfl ?_
  refine xm_E_s r_X11_moved_211 rfl rfl ?_
  refine xm_E_cs [.int r0, .int r1, .int r7, .int r3, .int (0 : Int32)] [] r_X11_moved_212 rfl rfl rfl (Nat.le_of_ble_eq_true rfl) rfl q14 ?_
  exact xm_E_iret r_X11_moved_213 rfl rfl
theorem w_X11_moved_0_26 {X : xm_X} {P : List xm_M} {d : Nat} {h : xm_H} {l0 : Nat} {l1 : Int32} {l2 : Int32} {h0 : xm_H} {r0 : Int32} {h1 : xm_H} {r1 : Int32} {h2 : xm_H} {r2 : Int32} {h3 : xm_H} {r3 : Int32} {h4 : xm_H} {r4 : Int32} {h5 : xm_H} {r5 : Int32} {h6 : xm_H} {r6 : Int32} {h7 : xm_H} {r7 : Int32} (q0 : xm_V X P d 224 [.int l1] h (some (.int r0)) h0) (q1 : xm_V X P d 225 [.int l1] h0 (some (.int r1)) h1) (q2 : xm_V X P d 226 [.int l1] h1 (some (.int r2)) h2) (q3 : xm_V X P d 227 [.int l1] h2 (some (.int r3)) h3) (q4 : xm_V X P d 228 [.int l1] h3 (some (.int r4)) h4) (q5 : ¬ (l2 = (9 : Int32))) (q6 : r4 = (0 : Int32)) (q7 : xm_V X P d 229 [.ref l0, .int l1, .int l2] h4 (some (.int r5)) h5) (q8 : X.1[l0]? = some (.inr 10)) (q9 : ¬ (r5 = (0 : Int32))) (q10 : h5.1 l0 16 = (0 : Int32)) (q11 : l2.toInt < 0 ∨ 7 < l2.toInt) (q12 : xm_V X P d 231 [.int r2] h5 (some (.int r6)) h6) (q13 : xm_V X P d 221 [.int r1, .int r0, .int r6, .int r3, .int (0 : Int32)] h6 (some (.int r7)) h7) : xm_E X P d co_X11_moved 0 [some (.ref l0), some (.int l1), some (.int l2), none, none, none, none, none] [] h (some (.int r7)) h7 := by
  refine xm_E_s r_X11_moved_0 rfl rfl ?_
  refine xm_E_cs [.int l1] [] r_X11_moved_1 rfl rfl rfl (Nat.le_of_ble_eq_true rfl) rfl q0 ?_
  refine xm_E_s (ls1 := [some (.ref l0), some (.int l1), some (.int l2), some (.int r0), none, none, none, none]) r_X11_moved_2 rfl rfl ?_
  refine xm_E_s r_X11_moved_3 rfl rfl ?_
  refine xm_E_cs [.int l1] [] r_X11_moved_4 rfl rfl rfl (Nat.le_of_ble_eq_true rfl) rfl q1 ?_
  refine xm_E_s (ls1 := [some (.ref l0), some (.int l1), some (.int l2), some (.int r0), some (.int r1), none, none, none]) r_X11_moved_5 rfl rfl ?_
  refine xm_E_s r_X11_moved_6 rfl rfl ?_
  refine xm_E_cs [.int l1] [] r_X11_moved_7 rfl rfl rfl (Nat.le_of_ble_eq_true rfl) rfl q2 ?_
  refine xm_E_s (ls1 := [some (.ref l0), some (.int l1), some (.int l2), some (.int r0), some (.int r1), some (.int r2), none, none]) r_X11_moved_8 rfl rfl ?_
  refine xm_E_s r_X11_moved_9 rfl rfl ?_
  refine xm_E_cs [.int l1] [] r_X11_moved_10 rfl rfl rfl (Nat.le_of_ble_eq_true rfl) rfl q3 ?_
  refine xm_E_s (ls1 := [some (.ref l0), some (.int l1), some (.int l2), some (.int r0), some (.int r1), some (.int r2), some (.int r3), none]) r_X11_moved_11 rfl rfl ?_
  refine xm_E_s r_X11_moved_12 rfl rfl ?_
  refine xm_E_cs [.int l1] [] r_X11_moved_13 rfl rfl rfl (Nat.le_of_ble_eq_true rfl) rfl q4 ?_
  refine xm_E_s (ls1 := [some (.ref l0), some (.int l1), some (.int l2), some (.int r0), some (.int r1), some (.int r2), some (.int r3), some (.int r4)]) r_X11_moved_14 rfl rfl ?_
  refine xm_E_s r_X11_moved_15 rfl rfl ?_
  refine xm_E_s r_X11_moved_16 rfl rfl ?_
  refine xm_E_s r_X11_moved_17 rfl rfl ?_
  refine xm_E_f q5 ?_
  refine xm_E_s r_X11_moved_37 rfl rfl ?_
  refine xm_E_s r_X11_moved_38 rfl rfl ?_
  refine xm_E_t q6 ?_
  refine xm_E_s r_X11_moved_39 rfl rfl ?_
  refine xm_E_s r_X11_moved_40 rfl rfl ?_
  refine xm_E_s r_X11_moved_41 rfl rfl ?_
  refine xm_E_cv [.ref l0, .int l1, .int l2] [] r_X11_moved_42 rfl rfl (Nat.le_of_ble_eq_true rfl) (xm_rc q8 (by decide)) rfl q7 ?_
  refine xm_E_s r_X11_moved_43 rfl rfl ?_
  refine xm_E_f q9 ?_
  refine xm_E_s r_X11_moved_44 rfl rfl ?_
  refine xm_E_s r_X11_moved_45 rfl (xm_T_gi rfl q8 rfl (Or.inr rfl)) ?_
  refine xm_E_s r_X11_moved_46 rfl rfl ?_
  refine xm_E_t q10 ?_
  refine xm_E_s r_X11_moved_55 rfl rfl ?_
  refine xm_E_s r_X11_moved_56 rfl (xm_T_tabd rfl q11) ?_
  refine xm_E_s r_X11_moved_214 rfl rfl ?_
  refine xm_E_s r_X11_moved_215 rfl rfl ?_
  refine xm_E_s r_X11_moved_216 rfl rfl ?_
  refine xm_E_cs [.int r2] [.int r0, .int r1] r_X11_moved_217 rfl rfl rfl (Nat.le_of_ble_eq_true rfl) rfl q12 ?_
  refine xm_E_s r_X11_moved_218 rfl rfl ?_
  refine xm_E_s r_X11_moved_219 rfl rfl ?_
  refine xm_E_cs [.int r1, .int r0, .int r6, .int r3, .int (0 : Int32)] [] r_X11_moved_220 rfl rfl rfl (Nat.le_of_ble_eq_true rfl) rfl q13 ?_
  exact xm_E_iret r_X11_moved_221 rfl rfl
theorem w_X11_moved_0_27 {X : xm_X} {P : List xm_M} {d : Nat} {h : xm_H} {l0 : Nat} {l1 : Int32} {l2 : Int32} {h0 : xm_H} {r0 : Int32} {h1 : xm_H} {r1 : Int32} {h2 : xm_H} {r2 : Int32} {h3 : xm_H} {r3 : Int32} {h4 : xm_H} {r4 : Int32} {h5 : xm_H} {r5 : Int32} (q0 : xm_V X P d 224 [.int l1] h (some (.int r0)) h0) (q1 : xm_V X P d 225 [.int l1] h0 (some (.int r1)) h1) (q2 : xm_V X P d 226 [.int l1] h1 (some (.int r2)) h2) (q3 : xm_V X P d 227 [.int l1] h2 (some (.int r3)) h3) (q4 : xm_V X P d 228 [.int l1] h3 (some (.int r4)) h4) (q5 : ¬ (l2 = (9 : Int32))) (q6 : r4 = (0 : Int32)) (q7 : xm_V X P d 229 [.ref l0, .int l1, .int l2] h4 (some (.int r5)) h5) (q8 : X.1[l0]? = some (.inr 10)) (q9 : ¬ (r5 = (0 : Int32))) (q10 : ¬ (h5.1 l0 16 = (0 : Int32))) (q11 : l2 = (4 : Int32)) : xm_E X P d co_X11_moved 0 [some (.ref l0), some (.int l1), some (.int l2), none, none, none, none, none] [] h (some (.int (-1 : Int32))) h5 := by
  refine xm_E_s r_X11_moved_0 rfl rfl ?_
  refine xm_E_cs [.int l1] [] r_X11_moved_1 rfl rfl rfl (Nat.le_of_ble_eq_true rfl) rfl q0 ?_
  refine xm_E_s (ls1 := [some (.ref l0), some (.int l1), some (.int l2), some (.int r0), none, none, none, none]) r_X11_moved_2 rfl rfl ?_
  refine xm_E_s r_X11_moved_3 rfl rfl ?_
  refine xm_E_cs [.int l1] [] r_X11_moved_4 rfl rfl rfl (Nat.le_of_ble_eq_true rfl) rfl q1 ?_
  refine xm_E_s (ls1 := [some (.ref l0), some (.int l1), some (.int l2), some (.int r0), some (.int r1), none, none, none]) r_X11_moved_5 rfl rfl ?_
  refine xm_E_s r_X11_moved_6 rfl rfl ?_
  refine xm_E_cs [.int l1] [] r_X11_moved_7 rfl rfl rfl (Nat.le_of_ble_eq_true rfl) rfl q2 ?_
  refine xm_E_s (ls1 := [some (.ref l0), some (.int l1), some (.int l2), some (.int r0), some (.int r1), some (.int r2), none, none]) r_X11_moved_8 rfl rfl ?_
  refine xm_E_s r_X11_moved_9 rfl rfl ?_
  refine xm_E_cs [.int l1] [] r_X11_moved_10 rfl rfl rfl (Nat.le_of_ble_eq_true rfl) rfl q3 ?_
  refine xm_E_s (ls1 := [some (.ref l0), some (.int l1), some (.int l2), some (.int r0), some (.int r1), some (.int r2), some (.int r3), none]) r_X11_moved_11 rfl rfl ?_
  refine xm_E_s r_X11_moved_12 rfl rfl ?_
  refine xm_E_cs [.int l1] [] r_X11_moved_13 rfl rfl rfl (Nat.le_of_ble_eq_true rfl) rfl q4 ?_
  refine xm_E_s (ls1 := [some (.ref l0), some (.int l1), some (.int l2), some (.int r0), some (.int r1), some (.int r2), some (.int r3), some (.int r4)]) r_X11_moved_14 rfl rfl ?_
  refine xm_E_s r_X11_moved_15 rfl rfl ?_
  refine xm_E_s r_X11_moved_16 rfl rfl ?_
  refine xm_E_s r_X11_moved_17 rfl rfl ?_
  refine xm_E_f q5 ?_
  refine xm_E_s r_X11_moved_37 rfl rfl ?_
  refine xm_E_s r_X11_moved_38 rfl rfl ?_
  refine xm_E_t q6 ?_
  refine xm_E_s r_X11_moved_39 rfl rfl ?_
  refine xm_E_s r_X11_moved_40 rfl rfl ?_
  refine xm_E_s r_X11_moved_41 rfl rfl ?_
  refine xm_E_cv [.ref l0, .int l1, .int l2] [] r_X11_moved_42 rfl rfl (Nat.le_of_ble_eq_true rfl) (xm_rc q8 (by decide)) rfl q7 ?_
  refine xm_E_s r_X11_moved_43 rfl rfl ?_
  refine xm_E_f q9 ?_
  refine xm_E_s r_X11_moved_44 rfl rfl ?_
  refine xm_E_s r_X11_moved_45 rfl (xm_T_gi rfl q8 rfl (Or.inr rfl)) ?_
  refine xm_E_s r_X11_moved_46 rfl rfl ?_
  refine xm_E_f q10 ?_
  refine xm_E_s r_X11_moved_47 rfl rfl ?_
  refine xm_E_s r_X11_moved_48 rfl rfl ?_
  refine xm_E_s r_X11_moved_49 rfl rfl ?_
  refine xm_E_t q11 ?_
  refine xm_E_s r_X11_moved_53 rfl rfl ?_
  exact xm_E_iret r_X11_moved_54 rfl rfl
theorem w_X11_moved_0_28 {X : xm_X} {P : List xm_M} {d : Nat} {h : xm_H} {l0 : Nat} {l1 : Int32} {l2 : Int32} {h0 : xm_H} {r0 : Int32} {h1 : xm_H} {r1 : Int32} {h2 : xm_H} {r2 : Int32} {h3 : xm_H} {r3 : Int32} {h4 : xm_H} {r4 : Int32} {h5 : xm_H} {r5 : Int32} (q0 : xm_V X P d 224 [.int l1] h (some (.int r0)) h0) (q1 : xm_V X P d 225 [.int l1] h0 (some (.int r1)) h1) (q2 : xm_V X P d 226 [.int l1] h1 (some (.int r2)) h2) (q3 : xm_V X P d 227 [.int l1] h2 (some (.int r3)) h3) (q4 : xm_V X P d 228 [.int l1] h3 (some (.int r4)) h4) (q5 : ¬ (l2 = (9 : Int32))) (q6 : r4 = (0 : Int32)) (q7 : xm_V X P d 229 [.ref l0, .int l1, .int l2] h4 (some (.int r5)) h5) (q8 : X.1[l0]? = some (.inr 10)) (q9 : ¬ (r5 = (0 : Int32))) (q10 : ¬ (h5.1 l0 16 = (0 : Int32))) (q11 : ¬ (l2 = (4 : Int32))) (q12 : l2 = (5 : Int32)) : xm_E X P d co_X11_moved 0 [some (.ref l0), some (.int l1), some (.int l2), none, none, none, none, none] [] h (some (.int (-1 : Int32))) h5 := by
  refine xm_E_s r_X11_moved_0 rfl rfl ?_
  refine xm_E_cs [.int l1] [] r_X11_moved_1 rfl rfl rfl (Nat.le_of_ble_eq_true rfl) rfl q0 ?_
  refine xm_E_s (ls1 := [some (.ref l0), some (.int l1), some (.int l2), some (.int r0), none, none, none, none]) r_X11_moved_2 rfl rfl ?_
  refine xm_E_s r_X11_moved_3 rfl rfl ?_
  refine xm_E_cs [.int l1] [] r_X11_moved_4 rfl rfl rfl (Nat.le_of_ble_eq_true rfl) rfl q1 ?_
  refine xm_E_s (ls1 := [some (.ref l0), some (.int l1), some (.int l2), some (.int r0), some (.int r1), none, none, none]) r_X11_moved_5 rfl rfl ?_
  refine xm_E_s r_X11_moved_6 rfl rfl ?_
  refine xm_E_cs [.int l1] [] r_X11_moved_7 rfl rfl rfl (Nat.le_of_ble_eq_true rfl) rfl q2 ?_
  refine xm_E_s (ls1 := [some (.ref l0), some (.int l1), some (.int l2), some (.int r0), some (.int r1), some (.int r2), none, none]) r_X11_moved_8 rfl rfl ?_
  refine xm_E_s r_X11_moved_9 rfl rfl ?_
  refine xm_E_cs [.int l1] [] r_X11_moved_10 rfl rfl rfl (Nat.le_of_ble_eq_true rfl) rfl q3 ?_
  refine xm_E_s (ls1 := [some (.ref l0), some (.int l1), some (.int l2), some (.int r0), some (.int r1), some (.int r2), some (.int r3), none]) r_X11_moved_11 rfl rfl ?_
  refine xm_E_s r_X11_moved_12 rfl rfl ?_
  refine xm_E_cs [.int l1] [] r_X11_moved_13 rfl rfl rfl (Nat.le_of_ble_eq_true rfl) rfl q4 ?_
  refine xm_E_s (ls1 := [some (.ref l0), some (.int l1), some (.int l2), some (.int r0), some (.int r1), some (.int r2), some (.int r3), some (.int r4)]) r_X11_moved_14 rfl rfl ?_
  refine xm_E_s r_X11_moved_15 rfl rfl ?_
  refine xm_E_s r_X11_moved_16 rfl rfl ?_
  refine xm_E_s r_X11_moved_17 rfl rfl ?_
  refine xm_E_f q5 ?_
  refine xm_E_s r_X11_moved_37 rfl rfl ?_
  refine xm_E_s r_X11_moved_38 rfl rfl ?_
  refine xm_E_t q6 ?_
  refine xm_E_s r_X11_moved_39 rfl rfl ?_
  refine xm_E_s r_X11_moved_40 rfl rfl ?_
  refine xm_E_s r_X11_moved_41 rfl rfl ?_
  refine xm_E_cv [.ref l0, .int l1, .int l2] [] r_X11_moved_42 rfl rfl (Nat.le_of_ble_eq_true rfl) (xm_rc q8 (by decide)) rfl q7 ?_
  refine xm_E_s r_X11_moved_43 rfl rfl ?_
  refine xm_E_f q9 ?_
  refine xm_E_s r_X11_moved_44 rfl rfl ?_
  refine xm_E_s r_X11_moved_45 rfl (xm_T_gi rfl q8 rfl (Or.inr rfl)) ?_
  refine xm_E_s r_X11_moved_46 rfl rfl ?_
  refine xm_E_f q10 ?_
  refine xm_E_s r_X11_moved_47 rfl rfl ?_
  refine xm_E_s r_X11_moved_48 rfl rfl ?_
  refine xm_E_s r_X11_moved_49 rfl rfl ?_
  refine xm_E_f q11 ?_
  refine xm_E_s r_X11_moved_50 rfl rfl ?_
  refine xm_E_s r_X11_moved_51 rfl rfl ?_
  refine xm_E_s r_X11_moved_52 rfl rfl ?_
  refine xm_E_t q12 ?_
  refine xm_E_s r_X11_moved_53 rfl rfl ?_
  exact xm_E_iret r_X11_moved_54 rfl rfl
theorem w_X11_moved_0_29 {X : xm_X} {P : List xm_M} {d : Nat} {h : xm_H} {l0 : Nat} {l1 : Int32} {l2 : Int32} {h0 : xm_H} {r0 : Int32} {h1 : xm_H} {r1 : Int32} {h2 : xm_H} {r2 : Int32} {h3 : xm_H} {r3 : Int32} {h4 : xm_H} {r4 : Int32} {h5 : xm_H} {r5 : Int32} {h6 : xm_H} {r6 : Int32} (q0 : xm_V X P d 224 [.int l1] h (some (.int r0)) h0) (q1 : xm_V X P d 225 [.int l1] h0 (some (.int r1)) h1) (q2 : xm_V X P d 226 [.int l1] h1 (some (.int r2)) h2) (q3 : xm_V X P d 227 [.int l1] h2 (some (.int r3)) h3) (q4 : xm_V X P d 228 [.int l1] h3 (some (.int r4)) h4) (q5 : ¬ (l2 = (9 : Int32))) (q6 : r4 = (0 : Int32)) (q7 : xm_V X P d 229 [.ref l0, .int l1, .int l2] h4 (some (.int r5)) h5) (q8 : X.1[l0]? = some (.inr 10)) (q9 : ¬ (r5 = (0 : Int32))) (q10 : ¬ (h5.1 l0 16 = (0 : Int32))) (q11 : ¬ (l2 = (4 : Int32))) (q12 : ¬ (l2 = (5 : Int32))) (q13 : l2 = (0 : Int32)) (q14 : r1 - r1 / (2 : Int32) * (2 : Int32) = (0 : Int32)) (q15 : r2 = (0 : Int32)) (q16 : xm_V X P d 221 [.int r0, .int (r1 / (2 : Int32)), .int (1 : Int32), .int ((1 : Int32) - r3), .int (0 : Int32)] h5 (some (.int r6)) h6) : xm_E X P d co_X11_moved 0 [some (.ref l0), some (.int l1), some (.int l2), none, none, none, none, none] [] h (some (.int r6)) h6 := by
  refine xm_E_s r_X11_moved_0 rfl rfl ?_
  refine xm_E_cs [.int l1] [] r_X11_moved_1 rfl rfl rfl (Nat.le_of_ble_eq_true rfl) rfl q0 ?_
  refine xm_E_s (ls1 := [some (.ref l0), some (.int l1), some (.int l2), some (.int r0), none, none, none, none]) r_X11_moved_2 rfl rfl ?_
  refine xm_E_s r_X11_moved_3 rfl rfl ?_
  refine xm_E_cs [.int l1] [] r_X11_moved_4 rfl rfl rfl (Nat.le_of_ble_eq_true rfl) rfl q1 ?_
  refine xm_E_s (ls1 := [some (.ref l0), some (.int l1), some (.int l2), some (.int r0), some (.int r1), none, none, none]) r_X11_moved_5 rfl rfl ?_
  refine xm_E_s r_X11_moved_6 rfl rfl ?_
  refine xm_E_cs [.int l1] [] r_X11_moved_7 rfl rfl rfl (Nat.le_of_ble_eq_true rfl) rfl q2 ?_
  refine xm_E_s (ls1 := [some (.ref l0), some (.int l1), some (.int l2), some (.int r0), some (.int r1), some (.int r2), none, none]) r_X11_moved_8 rfl rfl ?_
  refine xm_E_s r_X11_moved_9 rfl rfl ?_
  refine xm_E_cs [.int l1] [] r_X11_moved_10 rfl rfl rfl (Nat.le_of_ble_eq_true rfl) rfl q3 ?_
  refine xm_E_s (ls1 := [some (.ref l0), some (.int l1), some (.int l2), some (.int r0), some (.int r1), some (.int r2), some (.int r3), none]) r_X11_moved_11 rfl rfl ?_
  refine xm_E_s r_X11_moved_12 rfl rfl ?_
  refine xm_E_cs [.int l1] [] r_X11_moved_13 rfl rfl rfl (Nat.le_of_ble_eq_true rfl) rfl q4 ?_
  refine xm_E_s (ls1 := [some (.ref l0), some (.int l1), some (.int l2), some (.int r0), some (.int r1), some (.int r2), some (.int r3), some (.int r4)]) r_X11_moved_14 rfl rfl ?_
  refine xm_E_s r_X11_moved_15 rfl rfl ?_
  refine xm_E_s r_X11_moved_16 rfl rfl ?_
  refine xm_E_s r_X11_moved_17 rfl rfl ?_
  refine xm_E_f q5 ?_
  refine xm_E_s r_X11_moved_37 rfl rfl ?_
  refine xm_E_s r_X11_moved_38 rfl rfl ?_
  refine xm_E_t q6 ?_
  refine xm_E_s r_X11_moved_39 rfl rfl ?_
  refine xm_E_s r_X11_moved_40 rfl rfl ?_
  refine xm_E_s r_X11_moved_41 rfl rfl ?_
  refine xm_E_cv [.ref l0, .int l1, .int l2] [] r_X11_moved_42 rfl rfl (Nat.le_of_ble_eq_true rfl) (xm_rc q8 (by decide)) rfl q7 ?_
  refine xm_E_s r_X11_moved_43 rfl rfl ?_
  refine xm_E_f q9 ?_
  refine xm_E_s r_X11_moved_44 rfl rfl ?_
  refine xm_E_s r_X11_moved_45 rfl (xm_T_gi rfl q8 rfl (Or.inr rfl)) ?_
  refine xm_E_s r_X11_moved_46 rfl rfl ?_
  refine xm_E_f q10 ?_
  refine xm_E_s r_X11_moved_47 rfl rfl ?_
  refine xm_E_s r_X11_moved_48 rfl rfl ?_
  refine xm_E_s r_X11_moved_49 rfl rfl ?_
  refine xm_E_f q11 ?_
  refine xm_E_s r_X11_moved_50 rfl rfl ?_
  refine xm_E_s r_X11_moved_51 rfl rfl ?_
  refine xm_E_s r_X11_moved_52 rfl rfl ?_
  refine xm_E_f q12 ?_
  refine xm_E_s r_X11_moved_55 rfl rfl ?_
  refine xm_E_s r_X11_moved_56 rfl (xm_T_tab (0 : Int32) 57 rfl q13 (by decide) rfl) ?_
  refine xm_E_s r_X11_moved_57 rfl rfl ?_
  refine xm_E_s r_X11_moved_58 rfl rfl ?_
  refine xm_E_s r_X11_moved_59 rfl (xm_T_irem rfl (by decide)) ?_
  refine xm_E_s r_X11_moved_60 rfl rfl ?_
  refine xm_E_t q14 ?_
  refine xm_E_s r_X11_moved_63 rfl rfl ?_
  refine xm_E_s r_X11_moved_64 rfl rfl ?_
  refine xm_E_s r_X11_moved_65 rfl rfl ?_
  refine xm_E_s r_X11_moved_66 rfl (xm_T_idiv rfl (by decide)) ?_
  refine xm_E_s r_X11_moved_67 rfl rfl ?_
  refine xm_E_s r_X11_moved_68 rfl rfl ?_
  refine xm_E_t q15 ?_
  refine xm_E_s r_X11_moved_69 rfl rfl ?_
  refine xm_E_s r_X11_moved_70 rfl rfl ?_
  refine xm_E_s r_X11_moved_72 rfl rfl ?_
  refine xm_E_s r_X11_moved_73 rfl rfl ?_
  refine xm_E_s r_X11_moved_74 rfl rfl ?_
  refine xm_E_s r_X11_moved_75 rfl rfl ?_
  refine xm_E_cs [.int r0, .int (r1 / (2 : Int32)), .int (1 : Int32), .int ((1 : Int32) - r3), .int (0 : Int32)] [] r_X11_moved_76 rfl rfl rfl (Nat.le_of_ble_eq_true rfl) rfl q16 ?_
  exact xm_E_iret r_X11_moved_77 rfl rfl
theorem w_X11_moved_0_30 {X : xm_X} {P : List xm_M} {d : Nat} {h : xm_H} {l0 : Nat} {l1 : Int32} {l2 : Int32} {h0 : xm_H} {r0 : Int32} {h1 : xm_H} {r1 : Int32} {h2 : xm_H} {r2 : Int32} {h3 : xm_H} {r3 : Int32} {h4 : xm_H} {r4 : Int32} {h5 : xm_H} {r5 : Int32} {h6 : xm_H} {r6 : Int32} (q0 : xm_V X P d 224 [.int l1] h (some (.int r0)) h0) (q1 : xm_V X P d 225 [.int l1] h0 (some (.int r1)) h1) (q2 : xm_V X P d 226 [.int l1] h1 (some (.int r2)) h2) (q3 : xm_V X P d 227 [.int l1] h2 (some (.int r3)) h3) (q4 : xm_V X P d 228 [.int l1] h3 (some (.int r4)) h4) (q5 : ¬ (l2 = (9 : Int32))) (q6 : r4 = (0 : Int32)) (q7 : xm_V X P d 229 [.ref l0, .int l1, .int l2] h4 (some (.int r5)) h5) (q8 : X.1[l0]? = some (.inr 10)) (q9 : ¬ (r5 = (0 : Int32))) (q10 : ¬ (h5.1 l0 16 = (0 : Int32))) (q11 : ¬ (l2 = (4 : Int32))) (q12 : ¬ (l2 = (5 : Int32))) (q13 : l2 = (0 : Int32)) (q14 : r1 - r1 / (2 : Int32) * (2 : Int32) = (0 : Int32)) (q15 : ¬ (r2 = (0 : Int32))) (q16 : xm_V X P d 221 [.int r0, .int (r1 / (2 : Int32)), .int r2, .int ((1 : Int32) - r3), .int (0 : Int32)] h5 (some (.int r6)) h6) : xm_E X P d co_X11_moved 0 [some (.ref l0), some (.int l1), some (.int l2), none, none, none, none, none] [] h (some (.int r6)) h6 := by
  refine xm_E_s r_X11_moved_0 rfl rfl ?_
  refine xm_E_cs [.int l1] [] r_X11_moved_1 rfl rfl rfl (Nat.le_of_ble_eq_true rfl) rfl q0 ?_
  refine xm_E_s (ls1 := [some (.ref l0), some (.int l1), some (.int l2), some (.int r0), none, none, none, none]) r_X11_moved_2 rfl rfl ?_
  refine xm_E_s r_X11_moved_3 rfl rfl ?_
  refine xm_E_cs [.int l1] [] r_X11_moved_4 rfl rfl rfl (Nat.le_of_ble_eq_true rfl) rfl q1 ?_
  refine xm_E_s (ls1 := [some (.ref l0), some (.int l1), some (.int l2), some (.int r0), some (.int r1), none, none, none]) r_X11_moved_5 rfl rfl ?_
  refine xm_E_s r_X11_moved_6 rfl rfl ?_
  refine xm_E_cs [.int l1] [] r_X11_moved_7 rfl rfl rfl (Nat.le_of_ble_eq_true rfl) rfl q2 ?_
  refine xm_E_s (ls1 := [some (.ref l0), some (.int l1), some (.int l2), some (.int r0), some (.int r1), some (.int r2), none, none]) r_X11_moved_8 rfl rfl ?_
  refine xm_E_s r_X11_moved_9 rfl rfl ?_
  refine xm_E_cs [.int l1] [] r_X11_moved_10 rfl rfl rfl (Nat.le_of_ble_eq_true rfl) rfl q3 ?_
  refine xm_E_s (ls1 := [some (.ref l0), some (.int l1), some (.int l2), some (.int r0), some (.int r1), some (.int r2), some (.int r3), none]) r_X11_moved_11 rfl rfl ?_
  refine xm_E_s r_X11_moved_12 rfl rfl ?_
  refine xm_E_cs [.int l1] [] r_X11_moved_13 rfl rfl rfl (Nat.le_of_ble_eq_true rfl) rfl q4 ?_
  refine xm_E_s (ls1 := [some (.ref l0), some (.int l1), some (.int l2), some (.int r0), some (.int r1), some (.int r2), some (.int r3), some (.int r4)]) r_X11_moved_14 rfl rfl ?_
  refine xm_E_s r_X11_moved_15 rfl rfl ?_
  refine xm_E_s r_X11_moved_16 rfl rfl ?_
  refine xm_E_s r_X11_moved_17 rfl rfl ?_
  refine xm_E_f q5 ?_
  refine xm_E_s r_X11_moved_37 rfl rfl ?_
  refine xm_E_s r_X11_moved_38 rfl rfl ?_
  refine xm_E_t q6 ?_
  refine xm_E_s r_X11_moved_39 rfl rfl ?_
  refine xm_E_s r_X11_moved_40 rfl rfl ?_
  refine xm_E_s r_X11_moved_41 rfl rfl ?_
  refine xm_E_cv [.ref l0, .int l1, .int l2] [] r_X11_moved_42 rfl rfl (Nat.le_of_ble_eq_true rfl) (xm_rc q8 (by decide)) rfl q7 ?_
  refine xm_E_s r_X11_moved_43 rfl rfl ?_
  refine xm_E_f q9 ?_
  refine xm_E_s r_X11_moved_44 rfl rfl ?_
  refine xm_E_s r_X11_moved_45 rfl (xm_T_gi rfl q8 rfl (Or.inr rfl)) ?_
  refine xm_E_s r_X11_moved_46 rfl rfl ?_
  refine xm_E_f q10 ?_
  refine xm_E_s r_X11_moved_47 rfl rfl ?_
  refine xm_E_s r_X11_moved_48 rfl rfl ?_
  refine xm_E_s r_X11_moved_49 rfl rfl ?_
  refine xm_E_f q11 ?_
  refine xm_E_s r_X11_moved_50 rfl rfl ?_
  refine xm_E_s r_X11_moved_51 rfl rfl ?_
  refine xm_E_s r_X11_moved_52 rfl rfl ?_
  refine xm_E_f q12 ?_
  refine xm_E_s r_X11_moved_55 rfl rfl ?_
  refine xm_E_s r_X11_moved_56 rfl (xm_T_tab (0 : Int32) 57 rfl q13 (by decide) rfl) ?_
  refine xm_E_s r_X11_moved_57 rfl rfl ?_
  refine xm_E_s r_X11_moved_58 rfl rfl ?_
  refine xm_E_s r_X11_moved_59 rfl (xm_T_irem rfl (by decide)) ?_
  refine xm_E_s r_X11_moved_60 rfl rfl ?_
  refine xm_E_t q14 ?_
  refine xm_E_s r_X11_moved_63 rfl rfl ?_
  refine xm_E_s r_X11_moved_64 rfl rfl ?_
  refine xm_E_s r_X11_moved_65 rfl rfl ?_
  refine xm_E_s r_X11_moved_66 rfl (xm_T_idiv rfl (by decide)) ?_
  refine xm_E_s r_X11_moved_67 rfl rfl ?_
  refine xm_E_s r_X11_moved_68 rfl rfl ?_
  refine xm_E_f q15 ?_
  refine xm_E_s r_X11_moved_71 rfl rfl ?_
  refine xm_E_s r_X11_moved_72 rfl rfl ?_
  refine xm_E_s r_X11_moved_73 rfl rfl ?_
  refine xm_E_s r_X11_moved_74 rfl rfl ?_
  refine xm_E_s r_X11_moved_75 rfl rfl ?_
  refine xm_E_cs [.int r0, .int (r1 / (2 : Int32)), .int r2, .int ((1 : Int32) - r3), .int (0 : Int32)] [] r_X11_moved_76 rfl rfl rfl (Nat.le_of_ble_eq_true rfl) rfl q16 ?_
  exact xm_E_iret r_X11_moved_77 rfl rfl
theorem w_X11_moved_0_31 {X : xm_X} {P : List xm_M} {d : Nat} {h : xm_H} {l0 : Nat} {l1 : Int32} {l2 : Int32} {h0 : xm_H} {r0 : Int32} {h1 : xm_H} {r1 : Int32} {h2 : xm_H} {r2 : Int32} {h3 : xm_H} {r3 : Int32} {h4 : xm_H} {r4 : Int32} {h5 : xm_H} {r5 : Int32} (q0 : xm_V X P d 224 [.int l1] h (some (.int r0)) h0) (q1 : xm_V X P d 225 [.int l1] h0 (some (.int r1)) h1) (q2 : xm_V X P d 226 [.int l1] h1 (some (.int r2)) h2) (q3 : xm_V X P d 227 [.int l1] h2 (some (.int r3)) h3) (q4 : xm_V X P d 228 [.int l1] h3 (some (.int r4)) h4) (q5 : ¬ (l2 = (9 : Int32))) (q6 : r4 = (0 : Int32)) (q7 : xm_V X P d 229 [.ref l0, .int l1, .int l2] h4 (some (.int r5)) h5) (q8 : X.1[l0]? = some (.inr 10)) (q9 : ¬ (r5 = (0 : Int32))) (q10 : ¬ (h5.1 l0 16 = (0 : Int32))) (q11 : ¬ (l2 = (4 : Int32))) (q12 : ¬ (l2 = (5 : Int32))) (q13 : l2 = (0 : Int32)) (q14 : ¬ (r1 - r1 / (2 : Int32) * (2 : Int32) = (0 : Int32))) : xm_E X P d co_X11_moved 0 [some (.ref l0), some (.int l1), some (.int l2), none, none, none, none, none] [] h (some (.int (-1 : Int32))) h5 := by
  refine xm_E_s r_X11_moved_0 rfl rfl ?_
  refine xm_E_cs [.int l1] [] r_X11_moved_1 rfl rfl rfl (Nat.le_of_ble_eq_true rfl) rfl q0 ?_
  refine xm_E_s (ls1 := [some (.ref l0), some (.int l1), some (.int l2), some (.int r0), none, none, none, none]) r_X11_moved_2 rfl rfl ?_
  refine xm_E_s r_X11_moved_3 rfl rfl ?_
  refine xm_E_cs [.int l1] [] r_X11_moved_4 rfl rfl rfl (Nat.le_of_ble_eq_true rfl) rfl q1 ?_
  refine xm_E_s (ls1 := [some (.ref l0), some (.int l1), some (.int l2), some (.int r0), some (.int r1), none, none, none]) r_X11_moved_5 rfl rfl ?_
  refine xm_E_s r_X11_moved_6 rfl rfl ?_
  refine xm_E_cs [.int l1] [] r_X11_moved_7 rfl rfl rfl (Nat.le_of_ble_eq_true rfl) rfl q2 ?_
  refine xm_E_s (ls1 := [some (.ref l0), some (.int l1), some (.int l2), some (.int r0), some (.int r1), some (.int r2), none, none]) r_X11_moved_8 rfl rfl ?_
  refine xm_E_s r_X11_moved_9 rfl rfl ?_
  refine xm_E_cs [.int l1] [] r_X11_moved_10 rfl rfl rfl (Nat.le_of_ble_eq_true rfl) rfl q3 ?_
  refine xm_E_s (ls1 := [some (.ref l0), some (.int l1), some (.int l2), some (.int r0), some (.int r1), some (.int r2), some (.int r3), none]) r_X11_moved_11 rfl rfl ?_
  refine xm_E_s r_X11_moved_12 rfl rfl ?_
  refine xm_E_cs [.int l1] [] r_X11_moved_13 rfl rfl rfl (Nat.le_of_ble_eq_true rfl) rfl q4 ?_
  refine xm_E_s (ls1 := [some (.ref l0), some (.int l1), some (.int l2), some (.int r0), some (.int r1), some (.int r2), some (.int r3), some (.int r4)]) r_X11_moved_14 rfl rfl ?_
  refine xm_E_s r_X11_moved_15 rfl rfl ?_
  refine xm_E_s r_X11_moved_16 rfl rfl ?_
  refine xm_E_s r_X11_moved_17 rfl rfl ?_
  refine xm_E_f q5 ?_
  refine xm_E_s r_X11_moved_37 rfl rfl ?_
  refine xm_E_s r_X11_moved_38 rfl rfl ?_
  refine xm_E_t q6 ?_
  refine xm_E_s r_X11_moved_39 rfl rfl ?_
  refine xm_E_s r_X11_moved_40 rfl rfl ?_
  refine xm_E_s r_X11_moved_41 rfl rfl ?_
  refine xm_E_cv [.ref l0, .int l1, .int l2] [] r_X11_moved_42 rfl rfl (Nat.le_of_ble_eq_true rfl) (xm_rc q8 (by decide)) rfl q7 ?_
  refine xm_E_s r_X11_moved_43 rfl rfl ?_
  refine xm_E_f q9 ?_
  refine xm_E_s r_X11_moved_44 rfl rfl ?_
  refine xm_E_s r_X11_moved_45 rfl (xm_T_gi rfl q8 rfl (Or.inr rfl)) ?_
  refine xm_E_s r_X11_moved_46 rfl rfl ?_
  refine xm_E_f q10 ?_
  refine xm_E_s r_X11_moved_47 rfl rfl ?_
  refine xm_E_s r_X11_moved_48 rfl rfl ?_
  refine xm_E_s r_X11_moved_49 rfl rfl ?_
  refine xm_E_f q11 ?_
  refine xm_E_s r_X11_moved_50 rfl rfl ?_
  refine xm_E_s r_X11_moved_51 rfl rfl ?_
  refine xm_E_s r_X11_moved_52 rfl rfl ?_
  refine xm_E_f q12 ?_
  refine xm_E_s r_X11_moved_55 rfl rfl ?_
  refine xm_E_s r_X11_moved_56 rfl (xm_T_tab (0 : Int32) 57 rfl q13 (by decide) rfl) ?_
  refine xm_E_s r_X11_moved_57 rfl rfl ?_
  refine xm_E_s r_X11_moved_58 rfl rfl ?_
  refine xm_E_s r_X11_moved_59 rfl (xm_T_irem rfl (by decide)) ?_
  refine xm_E_s r_X11_moved_60 rfl rfl ?_
  refine xm_E_f q14 ?_
  refine xm_E_s r_X11_moved_61 rfl rfl ?_
  refine xm_E_s r_X11_moved_62 rfl rfl ?_
  exact xm_E_iret r_X11_moved_77 rfl rfl
theorem w_X11_moved_0_32 {X : xm_X} {P : List xm_M} {d : Nat} {h : xm_H} {l0 : Nat} {l1 : Int32} {l2 : Int32} {h0 : xm_H} {r0 : Int32} {h1 : xm_H} {r1 : Int32} {h2 : xm_H} {r2 : Int32} {h3 : xm_H} {r3 : Int32} {h4 : xm_H} {r4 : Int32} {h5 : xm_H} {r5 : Int32} {h6 : xm_H} {r6 : Int32} (q0 : xm_V X P d 224 [.int l1] h (some (.int r0)) h0) (q1 : xm_V X P d 225 [.int l1] h0 (some (.int r1)) h1) (q2 : xm_V X P d 226 [.int l1] h1 (some (.int r2)) h2) (q3 : xm_V X P d 227 [.int l1] h2 (some (.int r3)) h3) (q4 : xm_V X P d 228 [.int l1] h3 (some (.int r4)) h4) (q5 : ¬ (l2 = (9 : Int32))) (q6 : r4 = (0 : Int32)) (q7 : xm_V X P d 229 [.ref l0, .int l1, .int l2] h4 (some (.int r5)) h5) (q8 : X.1[l0]? = some (.inr 10)) (q9 : ¬ (r5 = (0 : Int32))) (q10 : ¬ (h5.1 l0 16 = (0 : Int32))) (q11 : ¬ (l2 = (4 : Int32))) (q12 : ¬ (l2 = (5 : Int32))) (q13 : l2 = (1 : Int32)) (q14 : r1 - r1 / (2 : Int32) * (2 : Int32) = (0 : Int32)) (q15 : r2 = (1 : Int32)) (q16 : xm_V X P d 221 [.int r0, .int (r1 / (2 : Int32)), .int (0 : Int32), .int r3, .int (0 : Int32)] h5 (some (.int r6)) h6) : xm_E X P d co_X11_moved 0 [some (.ref l0), some (.int l1), some (.int l2), none, none, none, none, none] [] h (some (.int r6)) h6 := by
  refine xm_E_s r_X11_moved_0 rfl rfl ?_
  refine xm_E_cs [.int l1] [] r_X11_moved_1 rfl rfl rfl (Nat.le_of_ble_eq_true rfl) rfl q0 ?_
  refine xm_E_s (ls1 := [some (.ref l0), some (.int l1), some (.int l2), some (.int r0), none, none, none, none]) r_X11_moved_2 rfl rfl ?_
  refine xm_E_s r_X11_moved_3 rfl rfl ?_
  refine xm_E_cs [.int l1] [] r_X11_moved_4 rfl rfl rfl (Nat.le_of_ble_eq_true rfl) rfl q1 ?_
  refine xm_E_s (ls1 := [some (.ref l0), some (.int l1), some (.int l2), some (.int r0), some (.int r1), none, none, none]) r_X11_moved_5 rfl rfl ?_
  refine xm_E_s r_X11_moved_6 rfl rfl ?_
  refine xm_E_cs [.int l1] [] r_X11_moved_7 rfl rfl rfl (Nat.le_of_ble_eq_true rfl) rfl q2 ?_
  refine xm_E_s (ls1 := [some (.ref l0), some (.int l1), some (.int l2), some (.int r0), some (.int r1), some (.int r2), none, none]) r_X11_moved_8 rfl rfl ?_
  refine xm_E_s r_X11_moved_9 rfl rfl ?_
  refine xm_E_cs [.int l1] [] r_X11_moved_10 rfl rfl rfl (Nat.le_of_ble_eq_true rfl) rfl q3 ?_
  refine xm_E_s (ls1 := [some (.ref l0), some (.int l1), some (.int l2), some (.int r0), some (.int r1), some (.int r2), some (.int r3), none]) r_X11_moved_11 rfl rfl ?_
  refine xm_E_s r_X11_moved_12 rfl rfl ?_
  refine xm_E_cs [.int l1] [] r_X11_moved_13 rfl rfl rfl (Nat.le_of_ble_eq_true rfl) rfl q4 ?_
  refine xm_E_s (ls1 := [some (.ref l0), some (.int l1), some (.int l2), some (.int r0), some (.int r1), some (.int r2), some (.int r3), some (.int r4)]) r_X11_moved_14 rfl rfl ?_
  refine xm_E_s r_X11_moved_15 rfl rfl ?_
  refine xm_E_s r_X11_moved_16 rfl rfl ?_
  refine xm_E_s r_X11_moved_17 rfl rfl ?_
  refine xm_E_f q5 ?_
  refine xm_E_s r_X11_moved_37 rfl rfl ?_
  refine xm_E_s r_X11_moved_38 rfl rfl ?_
  refine xm_E_t q6 ?_
  refine xm_E_s r_X11_moved_39 rfl rfl ?_
  refine xm_E_s r_X11_moved_40 rfl rfl ?_
  refine xm_E_s r_X11_moved_41 rfl rfl ?_
  refine xm_E_cv [.ref l0, .int l1, .int l2] [] r_X11_moved_42 rfl rfl (Nat.le_of_ble_eq_true rfl) (xm_rc q8 (by decide)) rfl q7 ?_
  refine xm_E_s r_X11_moved_43 rfl rfl ?_
  refine xm_E_f q9 ?_
  refine xm_E_s r_X11_moved_44 rfl rfl ?_
  refine xm_E_s r_X11_moved_45 rfl (xm_T_gi rfl q8 rfl (Or.inr rfl)) ?_
  refine xm_E_s r_X11_moved_46 rfl rfl ?_
  refine xm_E_f q10 ?_
  refine xm_E_s r_X11_moved_47 rfl rfl ?_
  refine xm_E_s r_X11_moved_48 rfl rfl ?_
  refine xm_E_s r_X11_moved_49 rfl rfl ?_
  refine xm_E_f q11 ?_
  refine xm_E_s r_X11_moved_50 rfl rfl ?_
  refine xm_E_s r_X11_moved_51 rfl rfl ?_
  refine xm_E_s r_X11_moved_52 rfl rfl ?_
  refine xm_E_f q12 ?_
  refine xm_E_s r_X11_moved_55 rfl rfl ?_
  refine xm_E_s r_X11_moved_56 rfl (xm_T_tab (1 : Int32) 78 rfl q13 (by decide) rfl) ?_
  refine xm_E_s r_X11_moved_78 rfl rfl ?_
  refine xm_E_s r_X11_moved_79 rfl rfl ?_
  refine xm_E_s r_X11_moved_80 rfl (xm_T_irem rfl (by decide)) ?_
  refine xm_E_s r_X11_moved_81 rfl rfl ?_
  refine xm_E_t q14 ?_
  refine xm_E_s r_X11_moved_84 rfl rfl ?_
  refine xm_E_s r_X11_moved_85 rfl rfl ?_
  refine xm_E_s r_X11_moved_86 rfl rfl ?_
  refine xm_E_s r_X11_moved_87 rfl (xm_T_idiv rfl (by decide)) ?_
  refine xm_E_s r_X11_moved_88 rfl rfl ?_
  refine xm_E_s r_X11_moved_89 rfl rfl ?_
  refine xm_E_s r_X11_moved_90 rfl rfl ?_
  refine xm_E_t q15 ?_
  refine xm_E_s r_X11_moved_91 rfl rfl ?_
  refine xm_E_s r_X11_moved_92 rfl rfl ?_
  refine xm_E_s r_X11_moved_94 rfl rfl ?_
  refine xm_E_s r_X11_moved_95 rfl rfl ?_
  refine xm_E_cs [.int r0, .int (r1 / (2 : Int32)), .int (0 : Int32), .int r3, .int (0 : Int32)] [] r_X11_moved_96 rfl rfl rfl (Nat.le_of_ble_eq_true rfl) rfl q16 ?_
  exact xm_E_iret r_X11_moved_97 rfl rfl
theorem w_X11_moved_0_33 {X : xm_X} {P : List xm_M} {d : Nat} {h : xm_H} {l0 : Nat} {l1 : Int32} {l2 : Int32} {h0 : xm_H} {r0 : Int32} {h1 : xm_H} {r1 : Int32} {h2 : xm_H} {r2 : Int32} {h3 : xm_H} {r3 : Int32} {h4 : xm_H} {r4 : Int32} {h5 : xm_H} {r5 : Int32} {h6 : xm_H} {r6 : Int32} (q0 : xm_V X P d 224 [.int l1] h (some (.int r0)) h0) (q1 : xm_V X P d 225 [.int l1] h0 (some (.int r1)) h1) (q2 : xm_V X P d 226 [.int l1] h1 (some (.int r2)) h2) (q3 : xm_V X P d 227 [.int l1] h2 (some (.int r3)) h3) (q4 : xm_V X P d 228 [.int l1] h3 (some (.int r4)) h4) (q5 : ¬ (l2 = (9 : Int32))) (q6 : r4 = (0 : Int32)) (q7 : xm_V X P d 229 [.ref l0, .int l1, .int l2] h4 (some (.int r5)) h5) (q8 : X.1[l0]? = some (.inr 10)) (q9 : ¬ (r5 = (0 : Int32))) (q10 : ¬ (h5.1 l0 16 = (0 : Int32))) (q11 : ¬ (l2 = (4 : Int32))) (q12 : ¬ (l2 = (5 : Int32))) (q13 : l2 = (1 : Int32)) (q14 : r1 - r1 / (2 : Int32) * (2 : Int32) = (0 : Int32)) (q15 : ¬ (r2 = (1 : Int32))) (q16 : xm_V X P d 221 [.int r0, .int (r1 / (2 : Int32)), .int r2, .int r3, .int (0 : Int32)] h5 (some (.int r6)) h6) : xm_E X P d co_X11_moved 0 [some (.ref l0), some (.int l1), some (.int l2), none, none, none, none, none] [] h (some (.int r6)) h6 := by
  refine xm_E_s r_X11_moved_0 rfl rfl ?_
  refine xm_E_cs [.int l1] [] r_X11_moved_1 rfl rfl rfl (Nat.le_of_ble_eq_true rfl) rfl q0 ?_
  refine xm_E_s (ls1 := [some (.ref l0), some (.int l1), some (.int l2), some (.int r0), none, none, none, none]) r_X11_moved_2 rfl rfl ?_
  refine xm_E_s r_X11_moved_3 rfl rfl ?_
  refine xm_E_cs [.int l1] [] r_X11_moved_4 rfl rfl rfl (Nat.le_of_ble_eq_true rfl) rfl q1 ?_
  refine xm_E_s (ls1 := [some (.ref l0), some (.int l1), some (.int l2), some (.int r0), some (.int r1), none, none, none]) r_X11_moved_5 rfl rfl ?_
  refine xm_E_s r_X11_moved_6 rfl rfl ?_
  refine xm_E_cs [.int l1] [] r_X11_moved_7 rfl rfl rfl (Nat.le_of_ble_eq_true rfl) rfl q2 ?_
  refine xm_E_s (ls1 := [some (.ref l0), some (.int l1), some (.int l2), some (.int r0), some (.int r1), some (.int r2), none, none]) r_X11_moved_8 rfl rfl ?_
  refine xm_E_s r_X11_moved_9 rfl rfl ?_
  refine xm_E_cs [.int l1] [] r_X11_moved_10 rfl rfl rfl (Nat.le_of_ble_eq_true rfl) rfl q3 ?_
  refine xm_E_s (ls1 := [some (.ref l0), some (.int l1), some (.int l2), some (.int r0), some (.int r1), some (.int r2), some (.int r3), none]) r_X11_moved_11 rfl rfl ?_
  refine xm_E_s r_X11_moved_12 rfl rfl ?_
  refine xm_E_cs [.int l1] [] r_X11_moved_13 rfl rfl rfl (Nat.le_of_ble_eq_true rfl) rfl q4 ?_
  refine xm_E_s (ls1 := [some (.ref l0), some (.int l1), some (.int l2), some (.int r0), some (.int r1), some (.int r2), some (.int r3), some (.int r4)]) r_X11_moved_14 rfl rfl ?_
  refine xm_E_s r_X11_moved_15 rfl rfl ?_
  refine xm_E_s r_X11_moved_16 rfl rfl ?_
  refine xm_E_s r_X11_moved_17 rfl rfl ?_
  refine xm_E_f q5 ?_
  refine xm_E_s r_X11_moved_37 rfl rfl ?_
  refine xm_E_s r_X11_moved_38 rfl rfl ?_
  refine xm_E_t q6 ?_
  refine xm_E_s r_X11_moved_39 rfl rfl ?_
  refine xm_E_s r_X11_moved_40 rfl rfl ?_
  refine xm_E_s r_X11_moved_41 rfl rfl ?_
  refine xm_E_cv [.ref l0, .int l1, .int l2] [] r_X11_moved_42 rfl rfl (Nat.le_of_ble_eq_true rfl) (xm_rc q8 (by decide)) rfl q7 ?_
  refine xm_E_s r_X11_moved_43 rfl rfl ?_
  refine xm_E_f q9 ?_
  refine xm_E_s r_X11_moved_44 rfl rfl ?_
  refine xm_E_s r_X11_moved_45 rfl (xm_T_gi rfl q8 rfl (Or.inr rfl)) ?_
  refine xm_E_s r_X11_moved_46 rfl rfl ?_
  refine xm_E_f q10 ?_
  refine xm_E_s r_X11_moved_47 rfl rfl ?_
  refine xm_E_s r_X11_moved_48 rfl rfl ?_
  refine xm_E_s r_X11_moved_49 rfl rfl ?_
  refine xm_E_f q11 ?_
  refine xm_E_s r_X11_moved_50 rfl rfl ?_
  refine xm_E_s r_X11_moved_51 rfl rfl ?_
  refine xm_E_s r_X11_moved_52 rfl rfl ?_
  refine xm_E_f q12 ?_
  refine xm_E_s r_X11_moved_55 rfl rfl ?_
  refine xm_E_s r_X11_moved_56 rfl (xm_T_tab (1 : Int32) 78 rfl q13 (by decide) rfl) ?_
  refine xm_E_s r_X11_moved_78 rfl rfl ?_
  refine xm_E_s r_X11_moved_79 rfl rfl ?_
  refine xm_E_s r_X11_moved_80 rfl (xm_T_irem rfl (by decide)) ?_
  refine xm_E_s r_X11_moved_81 rfl rfl ?_
  refine xm_E_t q14 ?_
  refine xm_E_s r_X11_moved_84 rfl rfl ?_
  refine xm_E_s r_X11_moved_85 rfl rfl ?_
  refine xm_E_s r_X11_moved_86 rfl rfl ?_
  refine xm_E_s r_X11_moved_87 rfl (xm_T_idiv rfl (by decide)) ?_
  refine xm_E_s r_X11_moved_88 rfl rfl ?_
  refine xm_E_s r_X11_moved_89 rfl rfl ?_
  refine xm_E_s r_X11_moved_90 rfl rfl ?_
  refine xm_E_f q15 ?_
  refine xm_E_s r_X11_moved_93 rfl rfl ?_
  refine xm_E_s r_X11_moved_94 rfl rfl ?_
  refine xm_E_s r_X11_moved_95 rfl rfl ?_
  refine xm_E_cs [.int r0, .int (r1 / (2 : Int32)), .int r2, .int r3, .int (0 : Int32)] [] r_X11_moved_96 rfl rfl rfl (Nat.le_of_ble_eq_true rfl) rfl q16 ?_
  exact xm_E_iret r_X11_moved_97 rfl rfl
theorem w_X11_moved_0_34 {X : xm_X} {P : List xm_M} {d : Nat} {h : xm_H} {l0 : Nat} {l1 : Int32} {l2 : Int32} {h0 : xm_H} {r0 : Int32} {h1 : xm_H} {r1 : Int32} {h2 : xm_H} {r2 : Int32} {h3 : xm_H} {r3 : Int32} {h4 : xm_H} {r4 : Int32} {h5 : xm_H} {r5 : Int32} (q0 : xm_V X P d 224 [.int l1] h (some (.int r0)) h0) (q1 : xm_V X P d 225 [.int l1] h0 (some (.int r1)) h1) (q2 : xm_V X P d 226 [.int l1] h1 (some (.int r2)) h2) (q3 : xm_V X P d 227 [.int l1] h2 (some (.int r3)) h3) (q4 : xm_V X P d 228 [.int l1] h3 (some (.int r4)) h4) (q5 : ¬ (l2 = (9 : Int32))) (q6 : r4 = (0 : Int32)) (q7 : xm_V X P d 229 [.ref l0, .int l1, .int l2] h4 (some (.int r5)) h5) (q8 : X.1[l0]? = some (.inr 10)) (q9 : ¬ (r5 = (0 : Int32))) (q10 : ¬ (h5.1 l0 16 = (0 : Int32))) (q11 : ¬ (l2 = (4 : Int32))) (q12 : ¬ (l2 = (5 : Int32))) (q13 : l2 = (1 : Int32)) (q14 : ¬ (r1 - r1 / (2 : Int32) * (2 : Int32) = (0 : Int32))) : xm_E X P d co_X11_moved 0 [some (.ref l0), some (.int l1), some (.int l2), none, none, none, none, none] [] h (some (.int (-1 : Int32))) h5 := by
  refine xm_E_s r_X11_moved_0 rfl rfl ?_
  refine xm_E_cs [.int l1] [] r_X11_moved_1 rfl rfl rfl (Nat.le_of_ble_eq_true rfl) rfl q0 ?_
  refine xm_E_s (ls1 := [some (.ref l0), some (.int l1), some (.int l2), some (.int r0), none, none, none, none]) r_X11_moved_2 rfl rfl ?_
  refine xm_E_s r_X11_moved_3 rfl rfl ?_
  refine xm_E_cs [.int l1] [] r_X11_moved_4 rfl rfl rfl (Nat.le_of_ble_eq_true rfl) rfl q1 ?_
  refine xm_E_s (ls1 := [some (.ref l0), some (.int l1), some (.int l2), some (.int r0), some (.int r1), none, none, none]) r_X11_moved_5 rfl rfl ?_
  refine xm_E_s r_X11_moved_6 rfl rfl ?_
  refine xm_E_cs [.int l1] [] r_X11_moved_7 rfl rfl rfl (Nat.le_of_ble_eq_true rfl) rfl q2 ?_
  refine xm_E_s (ls1 := [some (.ref l0), some (.int l1), some (.int l2), some (.int r0), some (.int r1), some (.int r2), none, none]) r_X11_moved_8 rfl rfl ?_
  refine xm_E_s r_X11_moved_9 rfl rfl ?_
  refine xm_E_cs [.int l1] [] r_X11_moved_10 rfl rfl rfl (Nat.le_of_ble_eq_true rfl) rfl q3 ?_
  refine xm_E_s (ls1 := [some (.ref l0), some (.int l1), some (.int l2), some (.int r0), some (.int r1), some (.int r2), some (.int r3), none]) r_X11_moved_11 rfl rfl ?_
  refine xm_E_s r_X11_moved_12 rfl rfl ?_
  refine xm_E_cs [.int l1] [] r_X11_moved_13 rfl rfl rfl (Nat.le_of_ble_eq_true rfl) rfl q4 ?_
  refine xm_E_s (ls1 := [some (.ref l0), some (.int l1), some (.int l2), some (.int r0), some (.int r1), some (.int r2), some (.int r3), some (.int r4)]) r_X11_moved_14 rfl rfl ?_
  refine xm_E_s r_X11_moved_15 rfl rfl ?_
  refine xm_E_s r_X11_moved_16 rfl rfl ?_
  refine xm_E_s r_X11_moved_17 rfl rfl ?_
  refine xm_E_f q5 ?_
  refine xm_E_s r_X11_moved_37 rfl rfl ?_
  refine xm_E_s r_X11_moved_38 rfl rfl ?_
  refine xm_E_t q6 ?_
  refine xm_E_s r_X11_moved_39 rfl rfl ?_
  refine xm_E_s r_X11_moved_40 rfl rfl ?_
  refine xm_E_s r_X11_moved_41 rfl rfl ?_
  refine xm_E_cv [.ref l0, .int l1, .int l2] [] r_X11_moved_42 rfl rfl (Nat.le_of_ble_eq_true rfl) (xm_rc q8 (by decide)) rfl q7 ?_
  refine xm_E_s r_X11_moved_43 rfl rfl ?_
  refine xm_E_f q9 ?_
  refine xm_E_s r_X11_moved_44 rfl rfl ?_
  refine xm_E_s r_X11_moved_45 rfl (xm_T_gi rfl q8 rfl (Or.inr rfl)) ?_
  refine xm_E_s r_X11_moved_46 rfl rfl ?_
  refine xm_E_f q10 ?_
  refine xm_E_s r_X11_moved_47 rfl rfl ?_
  refine xm_E_s r_X11_moved_48 rfl rfl ?_
  refine xm_E_s r_X11_moved_49 rfl rfl ?_
  refine xm_E_f q11 ?_
  refine xm_E_s r_X11_moved_50 rfl rfl ?_
  refine xm_E_s r_X11_moved_51 rfl rfl ?_
  refine xm_E_s r_X11_moved_52 rfl rfl ?_
  refine xm_E_f q12 ?_
  refine xm_E_s r_X11_moved_55 rfl rfl ?_
  refine xm_E_s r_X11_moved_56 rfl (xm_T_tab (1 : Int32) 78 rfl q13 (by decide) rfl) ?_
  refine xm_E_s r_X11_moved_78 rfl rfl ?_
  refine xm_E_s r_X11_moved_79 rfl rfl ?_
  refine xm_E_s r_X11_moved_80 rfl (xm_T_irem rfl (by decide)) ?_
  refine xm_E_s r_X11_moved_81 rfl rfl ?_
  refine xm_E_f q14 ?_
  refine xm_E_s r_X11_moved_82 rfl rfl ?_
  refine xm_E_s r_X11_moved_83 rfl rfl ?_
  exact xm_E_iret r_X11_moved_97 rfl rfl
theorem w_X11_moved_0_35 {X : xm_X} {P : List xm_M} {d : Nat} {h : xm_H} {l0 : Nat} {l1 : Int32} {l2 : Int32} {h0 : xm_H} {r0 : Int32} {h1 : xm_H} {r1 : Int32} {h2 : xm_H} {r2 : Int32} {h3 : xm_H} {r3 : Int32} {h4 : xm_H} {r4 : Int32} {h5 : xm_H} {r5 : Int32} {h6 : xm_H} {r6 : Int32} (q0 : xm_V X P d 224 [.int l1] h (some (.int r0)) h0) (q1 : xm_V X P d 225 [.int l1] h0 (some (.int r1)) h1) (q2 : xm_V X P d 226 [.int l1] h1 (some (.int r2)) h2) (q3 : xm_V X P d 227 [.int l1] h2 (some (.int r3)) h3) (q4 : xm_V X P d 228 [.int l1] h3 (some (.int r4)) h4) (q5 : ¬ (l2 = (9 : Int32))) (q6 : r4 = (0 : Int32)) (q7 : xm_V X P d 229 [.ref l0, .int l1, .int l2] h4 (some (.int r5)) h5) (q8 : X.1[l0]? = some (.inr 10)) (q9 : ¬ (r5 = (0 : Int32))) (q10 : ¬ (h5.1 l0 16 = (0 : Int32))) (q11 : ¬ (l2 = (4 : Int32))) (q12 : ¬ (l2 = (5 : Int32))) (q13 : l2 = (2 : Int32)) (q14 : r1 - r1 / (3 : Int32) * (3 : Int32) = (0 : Int32)) (q15 : r2 = (0 : Int32)) (q16 : xm_V X P d 221 [.int r0, .int (r1 / (3 : Int32)), .int (4 : Int32), .int ((1 : Int32) - r3), .int (0 : Int32)] h5 (some (.int r6)) h6) : xm_E X P d co_X11_moved 0 [some (.ref l0), some (.int l1), some (.int l2), none, none, none, none, none] [] h (some (.int r6)) h6 := by
  refine xm_E_s r_X11_moved_0 rfl rfl ?_
  refine xm_E_cs [.int l1] [] r_X11_moved_1 rfl rfl rfl (Nat.le_of_ble_eq_true rfl) rfl q0 ?_
  refine xm_E_s (ls1 := [some (.ref l0), some (.int l1), some (.int l2), some (.int r0), none, none, none, none]) r_X11_moved_2 rfl rfl ?_
  refine xm_E_s r_X11_moved_3 rfl rfl ?_
  refine xm_E_cs [.int l1] [] r_X11_moved_4 rfl rfl rfl (Nat.le_of_ble_eq_true rfl) rfl q1 ?_
  refine xm_E_s (ls1 := [some (.ref l0), some (.int l1), some (.int l2), some (.int r0), some (.int r1), none, none, none]) r_X11_moved_5 rfl rfl ?_
  refine xm_E_s r_X11_moved_6 rfl rfl ?_
  refine xm_E_cs [.int l1] [] r_X11_moved_7 rfl rfl rfl (Nat.le_of_ble_eq_true rfl) rfl q2 ?_
  refine xm_E_s (ls1 := [some (.ref l0), some (.int l1), some (.int l2), some (.int r0), some (.int r1), some (.int r2), none, none]) r_X11_moved_8 rfl rfl ?_
  refine xm_E_s r_X11_moved_9 rfl rfl ?_
  refine xm_E_cs [.int l1] [] r_X11_moved_10 rfl rfl rfl (Nat.le_of_ble_eq_true rfl) rfl q3 ?_
  refine xm_E_s (ls1 := [some (.ref l0), some (.int l1), some (.int l2), some (.int r0), some (.int r1), some (.int r2), some (.int r3), none]) r_X11_moved_11 rfl rfl ?_
  refine xm_E_s r_X11_moved_12 rfl rfl ?_
  refine xm_E_cs [.int l1] [] r_X11_moved_13 rfl rfl rfl (Nat.le_of_ble_eq_true rfl) rfl q4 ?_
  refine xm_E_s (ls1 := [some (.ref l0), some (.int l1), some (.int l2), some (.int r0), some (.int r1), some (.int r2), some (.int r3), some (.int r4)]) r_X11_moved_14 rfl rfl ?_
  refine xm_E_s r_X11_moved_15 rfl rfl ?_
  refine xm_E_s r_X11_moved_16 rfl rfl ?_
  refine xm_E_s r_X11_moved_17 rfl rfl ?_
  refine xm_E_f q5 ?_
  refine xm_E_s r_X11_moved_37 rfl rfl ?_
  refine xm_E_s r_X11_moved_38 rfl rfl ?_
  refine xm_E_t q6 ?_
  refine xm_E_s r_X11_moved_39 rfl rfl ?_
  refine xm_E_s r_X11_moved_40 rfl rfl ?_
  refine xm_E_s r_X11_moved_41 rfl rfl ?_
  refine xm_E_cv [.ref l0, .int l1, .int l2] [] r_X11_moved_42 rfl rfl (Nat.le_of_ble_eq_true rfl) (xm_rc q8 (by decide)) rfl q7 ?_
  refine xm_E_s r_X11_moved_43 rfl rfl ?_
  refine xm_E_f q9 ?_
  refine xm_E_s r_X11_moved_44 rfl rfl ?_
  refine xm_E_s r_X11_moved_45 rfl (xm_T_gi rfl q8 rfl (Or.inr rfl)) ?_
  refine xm_E_s r_X11_moved_46 rfl rfl ?_
  refine xm_E_f q10 ?_
  refine xm_E_s r_X11_moved_47 rfl rfl ?_
  refine xm_E_s r_X11_moved_48 rfl rfl ?_
  refine xm_E_s r_X11_moved_49 rfl rfl ?_
  refine xm_E_f q11 ?_
  refine xm_E_s r_X11_moved_50 rfl rfl ?_
  refine xm_E_s r_X11_moved_51 rfl rfl ?_
  refine xm_E_s r_X11_moved_52 rfl rfl ?_
  refine xm_E_f q12 ?_
  refine xm_E_s r_X11_moved_55 rfl rfl ?_
  refine xm_E_s r_X11_moved_56 rfl (xm_T_tab (2 : Int32) 98 rfl q13 (by decide) rfl) ?_
  refine xm_E_s r_X11_moved_98 rfl rfl ?_
  refine xm_E_s r_X11_moved_99 rfl rfl ?_
  refine xm_E_s r_X11_moved_100 rfl (xm_T_irem rfl (by decide)) ?_
  refine xm_E_s r_X11_moved_101 rfl rfl ?_
  refine xm_E_t q14 ?_
  refine xm_E_s r_X11_moved_104 rfl rfl ?_
  refine xm_E_s r_X11_moved_105 rfl rfl ?_
  refine xm_E_s r_X11_moved_106 rfl rfl ?_
  refine xm_E_s r_X11_moved_107 rfl (xm_T_idiv rfl (by decide)) ?_
  refine xm_E_s r_X11_moved_108 rfl rfl ?_
  refine xm_E_s r_X11_moved_109 rfl rfl ?_
  refine xm_E_t q15 ?_
  refine xm_E_s r_X11_moved_113 rfl rfl ?_
  refine xm_E_s r_X11_moved_114 rfl rfl ?_
  refine xm_E_s r_X11_moved_116 rfl rfl ?_
  refine xm_E_s r_X11_moved_117 rfl rfl ?_
  refine xm_E_s r_X11_moved_118 rfl rfl ?_
  refine xm_E_s r_X11_moved_119 rfl rfl ?_
  refine xm_E_cs [.int r0, .int (r1 / (3 : Int32)), .int (4 : Int32), .int ((1 : Int32) - r3), .int (0 : Int32)] [] r_X11_moved_120 rfl rfl rfl (Nat.le_of_ble_eq_true rfl) rfl q16 ?_
  exact xm_E_iret r_X11_moved_121 rfl rfl
theorem w_X11_moved_0_36 {X : xm_X} {P : List xm_M} {d : Nat} {h : xm_H} {l0 : Nat} {l1 : Int32} {l2 : Int32} {h0 : xm_H} {r0 : Int32} {h1 : xm_H} {r1 : Int32} {h2 : xm_H} {r2 : Int32} {h3 : xm_H} {r3 : Int32} {h4 : xm_H} {r4 : Int32} {h5 : xm_H} {r5 : Int32} {h6 : xm_H} {r6 : Int32} (q0 : xm_V X P d 224 [.int l1] h (some (.int r0)) h0) (q1 : xm_V X P d 225 [.int l1] h0 (some (.int r1)) h1) (q2 : xm_V X P d 226 [.int l1] h1 (some (.int r2)) h2) (q3 : xm_V X P d 227 [.int l1] h2 (some (.int r3)) h3) (q4 : xm_V X P d 228 [.int l1] h3 (some (.int r4)) h4) (q5 : ¬ (l2 = (9 : Int32))) (q6 : r4 = (0 : Int32)) (q7 : xm_V X P d 229 [.ref l0, .int l1, .int l2] h4 (some (.int r5)) h5) (q8 : X.1[l0]? = some (.inr 10)) (q9 : ¬ (r5 = (0 : Int32))) (q10 : ¬ (h5.1 l0 16 = (0 : Int32))) (q11 : ¬ (l2 = (4 : Int32))) (q12 : ¬ (l2 = (5 : Int32))) (q13 : l2 = (2 : Int32)) (q14 : r1 - r1 / (3 : Int32) * (3 : Int32) = (0 : Int32)) (q15 : ¬ (r2 = (0 : Int32))) (q16 : r2 = (1 : Int32)) (q17 : xm_V X P d 221 [.int r0, .int (r1 / (3 : Int32)), .int (4 : Int32), .int ((1 : Int32) - r3), .int (0 : Int32)] h5 (some (.int r6)) h6) : xm_E X P d co_X11_moved 0 [some (.ref l0), some (.int l1), some (.int l2), none, none, none, none, none] [] h (some (.int r6)) h6 := by
  refine xm_E_s r_X11_moved_0 rfl rfl ?_
  refine xm_E_cs [.int l1] [] r_X11_moved_1 rfl rfl rfl (Nat.le_of_ble_eq_true rfl) rfl q0 ?_
  refine xm_E_s (ls1 := [some (.ref l0), some (.int l1), some (.int l2), some (.int r0), none, none, none, none]) r_X11_moved_2 rfl rfl ?_
  refine xm_E_s r_X11_moved_3 rfl rfl ?_
  refine xm_E_cs [.int l1] [] r_X11_moved_4 rfl rfl rfl (Nat.le_of_ble_eq_true rfl) rfl q1 ?_
  refine xm_E_s (ls1 := [some (.ref l0), some (.int l1), some (.int l2), some (.int r0), some (.int r1), none, none, none]) r_X11_moved_5 rfl rfl ?_
  refine xm_E_s r_X11_moved_6 rfl rfl ?_
  refine xm_E_cs [.int l1] [] r_X11_moved_7 rfl rfl rfl (Nat.le_of_ble_eq_true rfl) rfl q2 ?_
  refine xm_E_s (ls1 := [some (.ref l0), some (.int l1), some (.int l2), some (.int r0), some (.int r1), some (.int r2), none, none]) r_X11_moved_8 rfl rfl ?_
  refine xm_E_s r_X11_moved_9 rfl rfl ?_
  refine xm_E_cs [.int l1] [] r_X11_moved_10 rfl rfl rfl (Nat.le_of_ble_eq_true rfl) rfl q3 ?_
  refine xm_E_s (ls1 := [some (.ref l0), some (.int l1), some (.int l2), some (.int r0), some (.int r1), some (.int r2), some (.int r3), none]) r_X11_moved_11 rfl rfl ?_
  refine xm_E_s r_X11_moved_12 rfl rfl ?_
  refine xm_E_cs [.int l1] [] r_X11_moved_13 rfl rfl rfl (Nat.le_of_ble_eq_true rfl) rfl q4 ?_
  refine xm_E_s (ls1 := [some (.ref l0), some (.int l1), some (.int l2), some (.int r0), some (.int r1), some (.int r2), some (.int r3), some (.int r4)]) r_X11_moved_14 rfl rfl ?_
  refine xm_E_s r_X11_moved_15 rfl rfl ?_
  refine xm_E_s r_X11_moved_16 rfl rfl ?_
  refine xm_E_s r_X11_moved_17 rfl rfl ?_
  refine xm_E_f q5 ?_
  refine xm_E_s r_X11_moved_37 rfl rfl ?_
  refine xm_E_s r_X11_moved_38 rfl rfl ?_
  refine xm_E_t q6 ?_
  refine xm_E_s r_X11_moved_39 rfl rfl ?_
  refine xm_E_s r_X11_moved_40 rfl rfl ?_
  refine xm_E_s r_X11_moved_41 rfl rfl ?_
  refine xm_E_cv [.ref l0, .int l1, .int l2] [] r_X11_moved_42 rfl rfl (Nat.le_of_ble_eq_true rfl) (xm_rc q8 (by decide)) rfl q7 ?_
  refine xm_E_s r_X11_moved_43 rfl rfl ?_
  refine xm_E_f q9 ?_
  refine xm_E_s r_X11_moved_44 rfl rfl ?_
  refine xm_E_s r_X11_moved_45 rfl (xm_T_gi rfl q8 rfl (Or.inr rfl)) ?_
  refine xm_E_s r_X11_moved_46 rfl rfl ?_
  refine xm_E_f q10 ?_
  refine xm_E_s r_X11_moved_47 rfl rfl ?_
  refine xm_E_s r_X11_moved_48 rfl rfl ?_
  refine xm_E_s r_X11_moved_49 rfl rfl ?_
  refine xm_E_f q11 ?_
  refine xm_E_s r_X11_moved_50 rfl rfl ?_
  refine xm_E_s r_X11_moved_51 rfl rfl ?_
  refine xm_E_s r_X11_moved_52 rfl rfl ?_
  refine xm_E_f q12 ?_
  refine xm_E_s r_X11_moved_55 rfl rfl ?_
  refine xm_E_s r_X11_moved_56 rfl (xm_T_tab (2 : Int32) 98 rfl q13 (by decide) rfl) ?_
  refine xm_E_s r_X11_moved_98 rfl rfl ?_
  refine xm_E_s r_X11_moved_99 rfl rfl ?_
  refine xm_E_s r_X11_moved_100 rfl (xm_T_irem rfl (by decide)) ?_
  refine xm_E_s r_X11_moved_101 rfl rfl ?_
  refine xm_E_t q14 ?_
  refine xm_E_s r_X11_moved_104 rfl rfl ?_
  refine xm_E_s r_X11_moved_105 rfl rfl ?_
  refine xm_E_s r_X11_moved_106 rfl rfl ?_
  refine xm_E_s r_X11_moved_107 rfl (xm_T_idiv rfl (by decide)) ?_
  refine xm_E_s r_X11_moved_108 rfl rfl ?_
  refine xm_E_s r_X11_moved_109 rfl rfl ?_
  refine xm_E_f q15 ?_
  refine xm_E_s r_X11_moved_110 rfl rfl ?_
  refine xm_E_s r_X11_moved_111 rfl rfl ?_
  refine xm_E_s r_X11_moved_112 rfl rfl ?_
  refine xm_E_t q16 ?_
  refine xm_E_s r_X11_moved_113 rfl rfl ?_
  refine xm_E_s r_X11_moved_114 rfl rfl ?_
  refine xm_E_s r_X11_moved_116 rfl rfl ?_
  refine xm_E_s r_X11_moved_117 rfl rfl ?_
  refine xm_E_s r_X11_moved_118 rfl rfl ?_
  refine xm_E_s r_X11_moved_119 rfl rfl ?_
  refine xm_E_cs [.int r0, .int (r1 / (3 : Int32)), .int (4 : Int32), .int ((1 : Int32) - r3), .int (0 : Int32)] [] r_X11_moved_120 rfl rfl rfl (Nat.le_of_ble_eq_true rfl) rfl q17 ?_
  exact xm_E_iret r_X11_moved_121 rfl rfl
theorem w_X11_moved_0_37 {X : xm_X} {P : List xm_M} {d : Nat} {h : xm_H} {l0 : Nat} {l1 : Int32} {l2 : Int32} {h0 : xm_H} {r0 : Int32} {h1 : xm_H} {r1 : Int32} {h2 : xm_H} {r2 : Int32} {h3 : xm_H} {r3 : Int32} {h4 : xm_H} {r4 : Int32} {h5 : xm_H} {r5 : Int32} {h6 : xm_H} {r6 : Int32} (q0 : xm_V X P d 224 [.int l1] h (some (.int r0)) h0) (q1 : xm_V X P d 225 [.int l1] h0 (some (.int r1)) h1) (q2 : xm_V X P d 226 [.int l1] h1 (some (.int r2)) h2) (q3 : xm_V X P d 227 [.int l1] h2 (some (.int r3)) h3) (q4 : xm_V X P d 228 [.int l1] h3 (some (.int r4)) h4) (q5 : ¬ (l2 = (9 : Int32))) (q6 : r4 = (0 : Int32)) (q7 : xm_V X P d 229 [.ref l0, .int l1, .int l2] h4 (some (.int r5)) h5) (q8 : X.1[l0]? = some (.inr 10)) (q9 : ¬ (r5 = (0 : Int32))) (q10 : ¬ (h5.1 l0 16 = (0 : Int32))) (q11 : ¬ (l2 = (4 : Int32))) (q12 : ¬ (l2 = (5 : Int32))) (q13 : l2 = (2 : Int32)) (q14 : r1 - r1 / (3 : Int32) * (3 : Int32) = (0 : Int32)) (q15 : ¬ (r2 = (0 : Int32))) (q16 : ¬ (r2 = (1 : Int32))) (q17 : xm_V X P d 221 [.int r0, .int (r1 / (3 : Int32)), .int r2, .int ((1 : Int32) - r3), .int (0 : Int32)] h5 (some (.int r6)) h6) : xm_E X P d co_X11_moved 0 [some (.ref l0), some (.int l1), some (.int l2), none, none, none, none, none] [] h (some (.int r6)) h6 := by
  refine xm_E_s r_X11_moved_0 rfl rfl ?_
  refine xm_E_cs [.int l1] [] r_X11_moved_1 rfl rfl rfl (Nat.le_of_ble_eq_true rfl) rfl q0 ?_
  refine xm_E_s (ls1 := [some (.ref l0), some (.int l1), some (.int l2), some (.int r0), none, none, none, none]) r_X11_moved_2 rfl rfl ?_
  refine xm_E_s r_X11_moved_3 rfl rfl ?_
  refine xm_E_cs [.int l1] [] r_X11_moved_4 rfl rfl rfl (Nat.le_of_ble_eq_true rfl) rfl q1 ?_
  refine xm_E_s (ls1 := [some (.ref l0), some (.int l1), some (.int l2), some (.int r0), some (.int r1), none, none, none]) r_X11_moved_5 rfl rfl ?_
  refine xm_E_s r_X11_moved_6 rfl rfl ?_
  refine xm_E_cs [.int l1] [] r_X11_moved_7 rfl rfl rfl (Nat.le_of_ble_eq_true rfl) rfl q2 ?_
  refine xm_E_s (ls1 := [some (.ref l0), some (.int l1), some (.int l2), some (.int r0), some (.int r1), some (.int r2), none, none]) r_X11_moved_8 rfl rfl ?_
  refine xm_E_s r_X11_moved_9 rfl rfl ?_
  refine xm_E_cs [.int l1] [] r_X11_moved_10 rfl rfl rfl (Nat.le_of_ble_eq_true rfl) rfl q3 ?_
  refine xm_E_s (ls1 := [some (.ref l0), some (.int l1), some (.int l2), some (.int r0), some (.int r1), some (.int r2), some (.int r3), none]) r_X11_moved_11 rfl rfl ?_
  refine xm_E_s r_X11_moved_12 rfl rfl ?_
  refine xm_E_cs [.int l1] [] r_X11_moved_13 rfl rfl rfl (Nat.le_of_ble_eq_true rfl) rfl q4 ?_
  refine xm_E_s (ls1 := [some (.ref l0), some (.int l1), some (.int l2), some (.int r0), some (.int r1), some (.int r2), some (.int r3), some (.int r4)]) r_X11_moved_14 rfl rfl ?_
  refine xm_E_s r_X11_moved_15 rfl rfl ?_
  refine xm_E_s r_X11_moved_16 rfl rfl ?_
  refine xm_E_s r_X11_moved_17 rfl rfl ?_
  refine xm_E_f q5 ?_
  refine xm_E_s r_X11_moved_37 rfl rfl ?_
  refine xm_E_s r_X11_moved_38 rfl rfl ?_
  refine xm_E_t q6 ?_
  refine xm_E_s r_X11_moved_39 rfl rfl ?_
  refine xm_E_s r_X11_moved_40 rfl rfl ?_
  refine xm_E_s r_X11_moved_41 rfl rfl ?_
  refine xm_E_cv [.ref l0, .int l1, .int l2] [] r_X11_moved_42 rfl rfl (Nat.le_of_ble_eq_true rfl) (xm_rc q8 (by decide)) rfl q7 ?_
  refine xm_E_s r_X11_moved_43 rfl rfl ?_
  refine xm_E_f q9 ?_
  refine xm_E_s r_X11_moved_44 rfl rfl ?_
  refine xm_E_s r_X11_moved_45 rfl (xm_T_gi rfl q8 rfl (Or.inr rfl)) ?_
  refine xm_E_s r_X11_moved_46 rfl rfl ?_
  refine xm_E_f q10 ?_
  refine xm_E_s r_X11_moved_47 rfl rfl ?_
  refine xm_E_s r_X11_moved_48 rfl rfl ?_
  refine xm_E_s r_X11_moved_49 rfl rfl ?_
  refine xm_E_f q11 ?_
  refine xm_E_s r_X11_moved_50 rfl rfl ?_
  refine xm_E_s r_X11_moved_51 rfl rfl ?_
  refine xm_E_s r_X11_moved_52 rfl rfl ?_
  refine xm_E_f q12 ?_
  refine xm_E_s r_X11_moved_55 rfl rfl ?_
  refine xm_E_s r_X11_moved_56 rfl (xm_T_tab (2 : Int32) 98 rfl q13 (by decide) rfl) ?_
  refine xm_E_s r_X11_moved_98 rfl rfl ?_
  refine xm_E_s r_X11_moved_99 rfl rfl ?_
  refine xm_E_s r_X11_moved_100 rfl (xm_T_irem rfl (by decide)) ?_
  refine xm_E_s r_X11_moved_101 rfl rfl ?_
  refine xm_E_t q14 ?_
  refine xm_E_s r_X11_moved_104 rfl rfl ?_
  refine xm_E_s r_X11_moved_105 rfl rfl ?_
  refine xm_E_s r_X11_moved_106 rfl rfl ?_
  refine xm_E_s r_X11_moved_107 rfl (xm_T_idiv rfl (by decide)) ?_
  refine xm_E_s r_X11_moved_108 rfl rfl ?_
  refine xm_E_s r_X11_moved_109 rfl rfl ?_
  refine xm_E_f q15 ?_
  refine xm_E_s r_X11_moved_110 rfl rfl ?_
  refine xm_E_s r_X11_moved_111 rfl rfl ?_
  refine xm_E_s r_X11_moved_112 rfl rfl ?_
  refine xm_E_f q16 ?_
  refine xm_E_s r_X11_moved_115 rfl rfl ?_
  refine xm_E_s r_X11_moved_116 rfl rfl ?_
  refine xm_E_s r_X11_moved_117 rfl rfl ?_
  refine xm_E_s r_X11_moved_118 rfl rfl ?_
  refine xm_E_s r_X11_moved_119 rfl rfl ?_
  refine xm_E_cs [.int r0, .int (r1 / (3 : Int32)), .int r2, .int ((1 : Int32) - r3), .int (0 : Int32)] [] r_X11_moved_120 rfl rfl rfl (Nat.le_of_ble_eq_true rfl) rfl q17 ?_
  exact xm_E_iret r_X11_moved_121 rfl rfl
theorem w_X11_moved_0_38 {X : xm_X} {P : List xm_M} {d : Nat} {h : xm_H} {l0 : Nat} {l1 : Int32} {l2 : Int32} {h0 : xm_H} {r0 : Int32} {h1 : xm_H} {r1 : Int32} {h2 : xm_H} {r2 : Int32} {h3 : xm_H} {r3 : Int32} {h4 : xm_H} {r4 : Int32} {h5 : xm_H} {r5 : Int32} (q0 : xm_V X P d 224 [.int l1] h (some (.int r0)) h0) (q1 : xm_V X P d 225 [.int l1] h0 (some (.int r1)) h1) (q2 : xm_V X P d 226 [.int l1] h1 (some (.int r2)) h2) (q3 : xm_V X P d 227 [.int l1] h2 (some (.int r3)) h3) (q4 : xm_V X P d 228 [.int l1] h3 (some (.int r4)) h4) (q5 : ¬ (l2 = (9 : Int32))) (q6 : r4 = (0 : Int32)) (q7 : xm_V X P d 229 [.ref l0, .int l1, .int l2] h4 (some (.int r5)) h5) (q8 : X.1[l0]? = some (.inr 10)) (q9 : ¬ (r5 = (0 : Int32))) (q10 : ¬ (h5.1 l0 16 = (0 : Int32))) (q11 : ¬ (l2 = (4 : Int32))) (q12 : ¬ (l2 = (5 : Int32))) (q13 : l2 = (2 : Int32)) (q14 : ¬ (r1 - r1 / (3 : Int32) * (3 : Int32) = (0 : Int32))) : xm_E X P d co_X11_moved 0 [some (.ref l0), some (.int l1), some (.int l2), none, none, none, none, none] [] h (some (.int (-1 : Int32))) h5 := by
  refine xm_E_s r_X11_moved_0 rfl rfl ?_
  refine xm_E_cs [.int l1] [] r_X11_moved_1 rfl rfl rfl (Nat.le_of_ble_eq_true rfl) rfl q0 ?_
  refine xm_E_s (ls1 := [some (.ref l0), some (.int l1), some (.int l2), some (.int r0), none, none, none, none]) r_X11_moved_2 rfl rfl ?_
  refine xm_E_s r_X11_moved_3 rfl rfl ?_
  refine xm_E_cs [.int l1] [] r_X11_moved_4 rfl rfl rfl (Nat.le_of_ble_eq_true rfl) rfl q1 ?_
  refine xm_E_s (ls1 := [some (.ref l0), some (.int l1), some (.int l2), some (.int r0), some (.int r1), none, none, none]) r_X11_moved_5 rfl rfl ?_
  refine xm_E_s r_X11_moved_6 rfl rfl ?_
  refine xm_E_cs [.int l1] [] r_X11_moved_7 rfl rfl rfl (Nat.le_of_ble_eq_true rfl) rfl q2 ?_
  refine xm_E_s (ls1 := [some (.ref l0), some (.int l1), some (.int l2), some (.int r0), some (.int r1), some (.int r2), none, none]) r_X11_moved_8 rfl rfl ?_
  refine xm_E_s r_X11_moved_9 rfl rfl ?_
  refine xm_E_cs [.int l1] [] r_X11_moved_10 rfl rfl rfl (Nat.le_of_ble_eq_true rfl) rfl q3 ?_
  refine xm_E_s (ls1 := [some (.ref l0), some (.int l1), some (.int l2), some (.int r0), some (.int r1), some (.int r2), some (.int r3), none]) r_X11_moved_11 rfl rfl ?_
  refine xm_E_s r_X11_moved_12 rfl rfl ?_
  refine xm_E_cs [.int l1] [] r_X11_moved_13 rfl rfl rfl (Nat.le_of_ble_eq_true rfl) rfl q4 ?_
  refine xm_E_s (ls1 := [some (.ref l0), some (.int l1), some (.int l2), some (.int r0), some (.int r1), some (.int r2), some (.int r3), some (.int r4)]) r_X11_moved_14 rfl rfl ?_
  refine xm_E_s r_X11_moved_15 rfl rfl ?_
  refine xm_E_s r_X11_moved_16 rfl rfl ?_
  refine xm_E_s r_X11_moved_17 rfl rfl ?_
  refine xm_E_f q5 ?_
  refine xm_E_s r_X11_moved_37 rfl rfl ?_
  refine xm_E_s r_X11_moved_38 rfl rfl ?_
  refine xm_E_t q6 ?_
  refine xm_E_s r_X11_moved_39 rfl rfl ?_
  refine xm_E_s r_X11_moved_40 rfl rfl ?_
  refine xm_E_s r_X11_moved_41 rfl rfl ?_
  refine xm_E_cv [.ref l0, .int l1, .int l2] [] r_X11_moved_42 rfl rfl (Nat.le_of_ble_eq_true rfl) (xm_rc q8 (by decide)) rfl q7 ?_
  refine xm_E_s r_X11_moved_43 rfl rfl ?_
  refine xm_E_f q9 ?_
  refine xm_E_s r_X11_moved_44 rfl rfl ?_
  refine xm_E_s r_X11_moved_45 rfl (xm_T_gi rfl q8 rfl (Or.inr rfl)) ?_
  refine xm_E_s r_X11_moved_46 rfl rfl ?_
  refine xm_E_f q10 ?_
  refine xm_E_s r_X11_moved_47 rfl rfl ?_
  refine xm_E_s r_X11_moved_48 rfl rfl ?_
  refine xm_E_s r_X11_moved_49 rfl rfl ?_
  refine xm_E_f q11 ?_
  refine xm_E_s r_X11_moved_50 rfl rfl ?_
  refine xm_E_s r_X11_moved_51 rfl rfl ?_
  refine xm_E_s r_X11_moved_52 rfl rfl ?_
  refine xm_E_f q12 ?_
  refine xm_E_s r_X11_moved_55 rfl rfl ?_
  refine xm_E_s r_X11_moved_56 rfl (xm_T_tab (2 : Int32) 98 rfl q13 (by decide) rfl) ?_
  refine xm_E_s r_X11_moved_98 rfl rfl ?_
  refine xm_E_s r_X11_moved_99 rfl rfl ?_
  refine xm_E_s r_X11_moved_100 rfl (xm_T_irem rfl (by decide)) ?_
  refine xm_E_s r_X11_moved_101 rfl rfl ?_
  refine xm_E_f q14 ?_
  refine xm_E_s r_X11_moved_102 rfl rfl ?_
  refine xm_E_s r_X11_moved_103 rfl rfl ?_
  exact xm_E_iret r_X11_moved_121 rfl rfl
theorem w_X11_moved_0_39 {X : xm_X} {P : List xm_M} {d : Nat} {h : xm_H} {l0 : Nat} {l1 : Int32} {l2 : Int32} {h0 : xm_H} {r0 : Int32} {h1 : xm_H} {r1 : Int32} {h2 : xm_H} {r2 : Int32} {h3 : xm_H} {r3 : Int32} {h4 : xm_H} {r4 : Int32} {h5 : xm_H} {r5 : Int32} {h6 : xm_H} {r6 : Int32} (q0 : xm_V X P d 224 [.int l1] h (some (.int r0)) h0) (q1 : xm_V X P d 225 [.int l1] h0 (some (.int r1)) h1) (q2 : xm_V X P d 226 [.int l1] h1 (some (.int r2)) h2) (q3 : xm_V X P d 227 [.int l1] h2 (some (.int r3)) h3) (q4 : xm_V X P d 228 [.int l1] h3 (some (.int r4)) h4) (q5 : ¬ (l2 = (9 : Int32))) (q6 : r4 = (0 : Int32)) (q7 : xm_V X P d 229 [.ref l0, .int l1, .int l2] h4 (some (.int r5)) h5) (q8 : X.1[l0]? = some (.inr 10)) (q9 : ¬ (r5 = (0 : Int32))) (q10 : ¬ (h5.1 l0 16 = (0 : Int32))) (q11 : ¬ (l2 = (4 : Int32))) (q12 : ¬ (l2 = (5 : Int32))) (q13 : l2 = (3 : Int32)) (q14 : r0 - r0 / (2 : Int32) * (2 : Int32) = (0 : Int32)) (q15 : r2 = (2 : Int32)) (q16 : xm_V X P d 221 [.int (r0 / (2 : Int32)), .int r1, .int (3 : Int32), .int ((1 : Int32) - r3), .int (0 : Int32)] h5 (some (.int r6)) h6) : xm_E X P d co_X11_moved 0 [some (.ref l0), some (.int l1), some (.int l2), none, none, none, none, none] [] h (some (.int r6)) h6 := by
  refine xm_E_s r_X11_moved_0 rfl rfl ?_
  refine xm_E_cs [.int l1] [] r_X11_moved_1 rfl rfl rfl (Nat.le_of_ble_eq_true rfl) rfl q0 ?_
  refine xm_E_s (ls1 := [some (.ref l0), some (.int l1), some (.int l2), some (.int r0), none, none, none, none]) r_X11_moved_2 rfl rfl ?_
  refine xm_E_s r_X11_moved_3 rfl rfl ?_
  refine xm_E_cs [.int l1] [] r_X11_moved_4 rfl rfl rfl (Nat.le_of_ble_eq_true rfl) rfl q1 ?_
  refine xm_E_s (ls1 := [some (.ref l0), some (.int l1), some (.int l2), some (.int r0), some (.int r1), none, none, none]) r_X11_moved_5 rfl rfl ?_
  refine xm_E_s r_X11_moved_6 rfl rfl ?_
  refine xm_E_cs [.int l1] [] r_X11_moved_7 rfl rfl rfl (Nat.le_of_ble_eq_true rfl) rfl q2 ?_
  refine xm_E_s (ls1 := [some (.ref l0), some (.int l1), some (.int l2), some (.int r0), some (.int r1), some (.int r2), none, none]) r_X11_moved_8 rfl rfl ?_
  refine xm_E_s r_X11_moved_9 rfl rfl ?_
  refine xm_E_cs [.int l1] [] r_X11_moved_10 rfl rfl rfl (Nat.le_of_ble_eq_true rfl) rfl q3 ?_
  refine xm_E_s (ls1 := [some (.ref l0), some (.int l1), some (.int l2), some (.int r0), some (.int r1), some (.int r2), some (.int r3), none]) r_X11_moved_11 rfl rfl ?_
  refine xm_E_s r_X11_moved_12 rfl rfl ?_
  refine xm_E_cs [.int l1] [] r_X11_moved_13 rfl rfl rfl (Nat.le_of_ble_eq_true rfl) rfl q4 ?_
  refine xm_E_s (ls1 := [some (.ref l0), some (.int l1), some (.int l2), some (.int r0), some (.int r1), some (.int r2), some (.int r3), some (.int r4)]) r_X11_moved_14 rfl rfl ?_
  refine xm_E_s r_X11_moved_15 rfl rfl ?_
  refine xm_E_s r_X11_moved_16 rfl rfl ?_
  refine xm_E_s r_X11_moved_17 rfl rfl ?_
  refine xm_E_f q5 ?_
  refine xm_E_s r_X11_moved_37 rfl rfl ?_
  refine xm_E_s r_X11_moved_38 rfl rfl ?_
  refine xm_E_t q6 ?_
  refine xm_E_s r_X11_moved_39 rfl rfl ?_
  refine xm_E_s r_X11_moved_40 rfl rfl ?_
  refine xm_E_s r_X11_moved_41 rfl rfl ?_
  refine xm_E_cv [.ref l0, .int l1, .int l2] [] r_X11_moved_42 rfl rfl (Nat.le_of_ble_eq_true rfl) (xm_rc q8 (by decide)) rfl q7 ?_
  refine xm_E_s r_X11_moved_43 rfl rfl ?_
  refine xm_E_f q9 ?_
  refine xm_E_s r_X11_moved_44 rfl rfl ?_
  refine xm_E_s r_X11_moved_45 rfl (xm_T_gi rfl q8 rfl (Or.inr rfl)) ?_
  refine xm_E_s r_X11_moved_46 rfl rfl ?_
  refine xm_E_f q10 ?_
  refine xm_E_s r_X11_moved_47 rfl rfl ?_
  refine xm_E_s r_X11_moved_48 rfl rfl ?_
  refine xm_E_s r_X11_moved_49 rfl rfl ?_
  refine xm_E_f q11 ?_
  refine xm_E_s r_X11_moved_50 rfl rfl ?_
  refine xm_E_s r_X11_moved_51 rfl rfl ?_
  refine xm_E_s r_X11_moved_52 rfl rfl ?_
  refine xm_E_f q12 ?_
  refine xm_E_s r_X11_moved_55 rfl rfl ?_
  refine xm_E_s r_X11_moved_56 rfl (xm_T_tab (3 : Int32) 122 rfl q13 (by decide) rfl) ?_
  refine xm_E_s r_X11_moved_122 rfl rfl ?_
  refine xm_E_s r_X11_moved_123 rfl rfl ?_
  refine xm_E_s r_X11_moved_124 rfl (xm_T_irem rfl (by decide)) ?_
  refine xm_E_s r_X11_moved_125 rfl rfl ?_
  refine xm_E_t q14 ?_
  refine xm_E_s r_X11_moved_128 rfl rfl ?_
  refine xm_E_s r_X11_moved_129 rfl rfl ?_
  refine xm_E_s r_X11_moved_130 rfl (xm_T_idiv rfl (by decide)) ?_
  refine xm_E_s r_X11_moved_131 rfl rfl ?_
  refine xm_E_s r_X11_moved_132 rfl rfl ?_
  refine xm_E_s r_X11_moved_133 rfl rfl ?_
  refine xm_E_s r_X11_moved_134 rfl rfl ?_
  refine xm_E_t q15 ?_
  refine xm_E_s r_X11_moved_135 rfl rfl ?_
  refine xm_E_s r_X11_moved_136 rfl rfl ?_
  refine xm_E_s r_X11_moved_138 rfl rfl ?_
  refine xm_E_s r_X11_moved_139 rfl rfl ?_
  refine xm_E_s r_X11_moved_140 rfl rfl ?_
  refine xm_E_s r_X11_moved_141 rfl rfl ?_
  refine xm_E_cs [.int (r0 / (2 : Int32)), .int r1, .int (3 : Int32), .int ((1 : Int32) - r3), .int (0 : Int32)] [] r_X11_moved_142 rfl rfl rfl (Nat.le_of_ble_eq_true rfl) rfl q16 ?_
  exact xm_E_iret r_X11_moved_143 rfl rfl
theorem w_X11_moved_0_40 {X : xm_X} {P : List xm_M} {d : Nat} {h : xm_H} {l0 : Nat} {l1 : Int32} {l2 : Int32} {h0 : xm_H} {r0 : Int32} {h1 : xm_H} {r1 : Int32} {h2 : xm_H} {r2 : Int32} {h3 : xm_H} {r3 : Int32} {h4 : xm_H} {r4 : Int32} {h5 : xm_H} {r5 : Int32} {h6 : xm_H} {r6 : Int32} (q0 : xm_V X P d 224 [.int l1] h (some (.int r0)) h0) (q1 : xm_V X P d 225 [.int l1] h0 (some (.int r1)) h1) (q2 : xm_V X P d 226 [.int l1] h1 (some (.int r2)) h2) (q3 : xm_V X P d 227 [.int l1] h2 (some (.int r3)) h3) (q4 : xm_V X P d 228 [.int l1] h3 (some (.int r4)) h4) (q5 : ¬ (l2 = (9 : Int32))) (q6 : r4 = (0 : Int32)) (q7 : xm_V X P d 229 [.ref l0, .int l1, .int l2] h4 (some (.int r5)) h5) (q8 : X.1[l0]? = some (.inr 10)) (q9 : ¬ (r5 = (0 : Int32))) (q10 : ¬ (h5.1 l0 16 = (0 : Int32))) (q11 : ¬ (l2 = (4 : Int32))) (q12 : ¬ (l2 = (5 : Int32))) (q13 : l2 = (3 : Int32)) (q14 : r0 - r0 / (2 : Int32) * (2 : Int32) = (0 : Int32)) (q15 : ¬ (r2 = (2 : Int32))) (q16 : xm_V X P d 221 [.int (r0 / (2 : Int32)), .int r1, .int r2, .int ((1 : Int32) - r3), .int (0 : Int32)] h5 (some (.int r6)) h6) : xm_E X P d co_X11_moved 0 [some (.ref l0), some (.int l1), some (.int l2), none, none, none, none, none] [] h (some (.int r6)) h6 := by
  refine xm_E_s r_X11_moved_0 rfl rfl ?_
  refine xm_E_cs [.int l1] [] r_X11_moved_1 rfl rfl rfl (Nat.le_of_ble_eq_true rfl) rfl q0 ?_
  refine xm_E_s (ls1 := [some (.ref l0), some (.int l1), some (.int l2), some (.int r0), none, none, none, none]) r_X11_moved_2 rfl rfl ?_
  refine xm_E_s r_X11_moved_3 rfl rfl ?_
  refine xm_E_cs [.int l1] [] r_X11_moved_4 rfl rfl rfl (Nat.le_of_ble_eq_true rfl) rfl q1 ?_
  refine xm_E_s (ls1 := [some (.ref l0), some (.int l1), some (.int l2), some (.int r0), some (.int r1), none, none, none]) r_X11_moved_5 rfl rfl ?_
  refine xm_E_s r_X11_moved_6 rfl rfl ?_
  refine xm_E_cs [.int l1] [] r_X11_moved_7 rfl rfl rfl (Nat.le_of_ble_eq_true rfl) rfl q2 ?_
  refine xm_E_s (ls1 := [some (.ref l0), some (.int l1), some (.int l2), some (.int r0), some (.int r1), some (.int r2), none, none]) r_X11_moved_8 rfl rfl ?_
  refine xm_E_s r_X11_moved_9 rfl rfl ?_
  refine xm_E_cs [.int l1] [] r_X11_moved_10 rfl rfl rfl (Nat.le_of_ble_eq_true rfl) rfl q3 ?_
  refine xm_E_s (ls1 := [some (.ref l0), some (.int l1), some (.int l2), some (.int r0), some (.int r1), some (.int r2), some (.int r3), none]) r_X11_moved_11 rfl rfl ?_
  refine xm_E_s r_X11_moved_12 rfl rfl ?_
  refine xm_E_cs [.int l1] [] r_X11_moved_13 rfl rfl rfl (Nat.le_of_ble_eq_true rfl) rfl q4 ?_
  refine xm_E_s (ls1 := [some (.ref l0), some (.int l1), some (.int l2), some (.int r0), some (.int r1), some (.int r2), some (.int r3), some (.int r4)]) r_X11_moved_14 rfl rfl ?_
  refine xm_E_s r_X11_moved_15 rfl rfl ?_
  refine xm_E_s r_X11_moved_16 rfl rfl ?_
  refine xm_E_s r_X11_moved_17 rfl rfl ?_
  refine xm_E_f q5 ?_
  refine xm_E_s r_X11_moved_37 rfl rfl ?_
  refine xm_E_s r_X11_moved_38 rfl rfl ?_
  refine xm_E_t q6 ?_
  refine xm_E_s r_X11_moved_39 rfl rfl ?_
  refine xm_E_s r_X11_moved_40 rfl rfl ?_
  refine xm_E_s r_X11_moved_41 rfl rfl ?_
  refine xm_E_cv [.ref l0, .int l1, .int l2] [] r_X11_moved_42 rfl rfl (Nat.le_of_ble_eq_true rfl) (xm_rc q8 (by decide)) rfl q7 ?_
  refine xm_E_s r_X11_moved_43 rfl rfl ?_
  refine xm_E_f q9 ?_
  refine xm_E_s r_X11_moved_44 rfl rfl ?_
  refine xm_E_s r_X11_moved_45 rfl (xm_T_gi rfl q8 rfl (Or.inr rfl)) ?_
  refine xm_E_s r_X11_moved_46 rfl rfl ?_
  refine xm_E_f q10 ?_
  refine xm_E_s r_X11_moved_47 rfl rfl ?_
  refine xm_E_s r_X11_moved_48 rfl rfl ?_
  refine xm_E_s r_X11_moved_49 rfl rfl ?_
  refine xm_E_f q11 ?_
  refine xm_E_s r_X11_moved_50 rfl rfl ?_
  refine xm_E_s r_X11_moved_51 rfl rfl ?_
  refine xm_E_s r_X11_moved_52 rfl rfl ?_
  refine xm_E_f q12 ?_
  refine xm_E_s r_X11_moved_55 rfl rfl ?_
  refine xm_E_s r_X11_moved_56 rfl (xm_T_tab (3 : Int32) 122 rfl q13 (by decide) rfl) ?_
  refine xm_E_s r_X11_moved_122 rfl rfl ?_
  refine xm_E_s r_X11_moved_123 rfl rfl ?_
  refine xm_E_s r_X11_moved_124 rfl (xm_T_irem rfl (by decide)) ?_
  refine xm_E_s r_X11_moved_125 rfl rfl ?_
  refine xm_E_t q14 ?_
  refine xm_E_s r_X11_moved_128 rfl rfl ?_
  refine xm_E_s r_X11_moved_129 rfl rfl ?_
  refine xm_E_s r_X11_moved_130 rfl (xm_T_idiv rfl (by decide)) ?_
  refine xm_E_s r_X11_moved_131 rfl rfl ?_
  refine xm_E_s r_X11_moved_132 rfl rfl ?_
  refine xm_E_s r_X11_moved_133 rfl rfl ?_
  refine xm_E_s r_X11_moved_134 rfl rfl ?_
  refine xm_E_f q15 ?_
  refine xm_E_s r_X11_moved_137 rfl rfl ?_
  refine xm_E_s r_X11_moved_138 rfl rfl ?_
  refine xm_E_s r_X11_moved_139 rfl rfl ?_
  refine xm_E_s r_X11_moved_140 rfl rfl ?_
  refine xm_E_s r_X11_moved_141 rfl rfl ?_
  refine xm_E_cs [.int (r0 / (2 : Int32)), .int r1, .int r2, .int ((1 : Int32) - r3), .int (0 : Int32)] [] r_X11_moved_142 rfl rfl rfl (Nat.le_of_ble_eq_true rfl) rfl q16 ?_
  exact xm_E_iret r_X11_moved_143 rfl rfl
theorem w_X11_moved_0_41 {X : xm_X} {P : List xm_M} {d : Nat} {h : xm_H} {l0 : Nat} {l1 : Int32} {l2 : Int32} {h0 : xm_H} {r0 : Int32} {h1 : xm_H} {r1 : Int32} {h2 : xm_H} {r2 : Int32} {h3 : xm_H} {r3 : Int32} {h4 : xm_H} {r4 : Int32} {h5 : xm_H} {r5 : Int32} (q0 : xm_V X P d 224 [.int l1] h (some (.int r0)) h0) (q1 : xm_V X P d 225 [.int l1] h0 (some (.int r1)) h1) (q2 : xm_V X P d 226 [.int l1] h1 (some (.int r2)) h2) (q3 : xm_V X P d 227 [.int l1] h2 (some (.int r3)) h3) (q4 : xm_V X P d 228 [.int l1] h3 (some (.int r4)) h4) (q5 : ¬ (l2 = (9 : Int32))) (q6 : r4 = (0 : Int32)) (q7 : xm_V X P d 229 [.ref l0, .int l1, .int l2] h4 (some (.int r5)) h5) (q8 : X.1[l0]? = some (.inr 10)) (q9 : ¬ (r5 = (0 : Int32))) (q10 : ¬ (h5.1 l0 16 = (0 : Int32))) (q11 : ¬ (l2 = (4 : Int32))) (q12 : ¬ (l2 = (5 : Int32))) (q13 : l2 = (3 : Int32)) (q14 : ¬ (r0 - r0 / (2 : Int32) * (2 : Int32) = (0 : Int32))) : xm_E X P d co_X11_moved 0 [some (.ref l0), some (.int l1), some (.int l2), none, none, none, none, none] [] h (some (.int (-1 : Int32))) h5 := by
  refine xm_E_s r_X11_moved_0 rfl rfl ?_
  refine xm_E_cs [.int l1] [] r_X11_moved_1 rfl rfl rfl (Nat.le_of_ble_eq_true rfl) rfl q0 ?_
  refine xm_E_s (ls1 := [some (.ref l0), some (.int l1), some (.int l2), some (.int r0), none, none, none, none]) r_X11_moved_2 rfl rfl ?_
  refine xm_E_s r_X11_moved_3 rfl rfl ?_
  refine xm_E_cs [.int l1] [] r_X11_moved_4 rfl rfl rfl (Nat.le_of_ble_eq_true rfl) rfl q1 ?_
  refine xm_E_s (ls1 := [some (.ref l0), some (.int l1), some (.int l2), some (.int r0), some (.int r1), none, none, none]) r_X11_moved_5 rfl rfl ?_
  refine xm_E_s r_X11_moved_6 rfl rfl ?_
  refine xm_E_cs [.int l1] [] r_X11_moved_7 rfl rfl rfl (Nat.le_of_ble_eq_true rfl) rfl q2 ?_
  refine xm_E_s (ls1 := [some (.ref l0), some (.int l1), some (.int l2), some (.int r0), some (.int r1), some (.int r2), none, none]) r_X11_moved_8 rfl rfl ?_
  refine xm_E_s r_X11_moved_9 rfl rfl ?_
  refine xm_E_cs [.int l1] [] r_X11_moved_10 rfl rfl rfl (Nat.le_of_ble_eq_true rfl) rfl q3 ?_
  refine xm_E_s (ls1 := [some (.ref l0), some (.int l1), some (.int l2), some (.int r0), some (.int r1), some (.int r2), some (.int r3), none]) r_X11_moved_11 rfl rfl ?_
  refine xm_E_s r_X11_moved_12 rfl rfl ?_
  refine xm_E_cs [.int l1] [] r_X11_moved_13 rfl rfl rfl (Nat.le_of_ble_eq_true rfl) rfl q4 ?_
  refine xm_E_s (ls1 := [some (.ref l0), some (.int l1), some (.int l2), some (.int r0), some (.int r1), some (.int r2), some (.int r3), some (.int r4)]) r_X11_moved_14 rfl rfl ?_
  refine xm_E_s r_X11_moved_15 rfl rfl ?_
  refine xm_E_s r_X11_moved_16 rfl rfl ?_
  refine xm_E_s r_X11_moved_17 rfl rfl ?_
  refine xm_E_f q5 ?_
  refine xm_E_s r_X11_moved_37 rfl rfl ?_
  refine xm_E_s r_X11_moved_38 rfl rfl ?_
  refine xm_E_t q6 ?_
  refine xm_E_s r_X11_moved_39 rfl rfl ?_
  refine xm_E_s r_X11_moved_40 rfl rfl ?_
  refine xm_E_s r_X11_moved_41 rfl rfl ?_
  refine xm_E_cv [.ref l0, .int l1, .int l2] [] r_X11_moved_42 rfl rfl (Nat.le_of_ble_eq_true rfl) (xm_rc q8 (by decide)) rfl q7 ?_
  refine xm_E_s r_X11_moved_43 rfl rfl ?_
  refine xm_E_f q9 ?_
  refine xm_E_s r_X11_moved_44 rfl rfl ?_
  refine xm_E_s r_X11_moved_45 rfl (xm_T_gi rfl q8 rfl (Or.inr rfl)) ?_
  refine xm_E_s r_X11_moved_46 rfl rfl ?_
  refine xm_E_f q10 ?_
  refine xm_E_s r_X11_moved_47 rfl rfl ?_
  refine xm_E_s r_X11_moved_48 rfl rfl ?_
  refine xm_E_s r_X11_moved_49 rfl rfl ?_
  refine xm_E_f q11 ?_
  refine xm_E_s r_X11_moved_50 rfl rfl ?_
  refine xm_E_s r_X11_moved_51 rfl rfl ?_
  refine xm_E_s r_X11_moved_52 rfl rfl ?_
  refine xm_E_f q12 ?_
  refine xm_E_s r_X11_moved_55 rfl rfl ?_
  refine xm_E_s r_X11_moved_56 rfl (xm_T_tab (3 : Int32) 122 rfl q13 (by decide) rfl) ?_
  refine xm_E_s r_X11_moved_122 rfl rfl ?_
  refine xm_E_s r_X11_moved_123 rfl rfl ?_
  refine xm_E_s r_X11_moved_124 rfl (xm_T_irem rfl (by decide)) ?_
  refine xm_E_s r_X11_moved_125 rfl rfl ?_
  refine xm_E_f q14 ?_
  refine xm_E_s r_X11_moved_126 rfl rfl ?_
  refine xm_E_s r_X11_moved_127 rfl rfl ?_
  exact xm_E_iret r_X11_moved_143 rfl rfl
theorem w_X11_moved_0_42 {X : xm_X} {P : List xm_M} {d : Nat} {h : xm_H} {l0 : Nat} {l1 : Int32} {l2 : Int32} {h0 : xm_H} {r0 : Int32} {h1 : xm_H} {r1 : Int32} {h2 : xm_H} {r2 : Int32} {h3 : xm_H} {r3 : Int32} {h4 : xm_H} {r4 : Int32} {h5 : xm_H} {r5 : Int32} {h6 : xm_H} {r6 : Int32} (q0 : xm_V X P d 224 [.int l1] h (some (.int r0)) h0) (q1 : xm_V X P d 225 [.int l1] h0 (some (.int r1)) h1) (q2 : xm_V X P d 226 [.int l1] h1 (some (.int r2)) h2) (q3 : xm_V X P d 227 [.int l1] h2 (some (.int r3)) h3) (q4 : xm_V X P d 228 [.int l1] h3 (some (.int r4)) h4) (q5 : ¬ (l2 = (9 : Int32))) (q6 : r4 = (0 : Int32)) (q7 : xm_V X P d 229 [.ref l0, .int l1, .int l2] h4 (some (.int r5)) h5) (q8 : X.1[l0]? = some (.inr 10)) (q9 : ¬ (r5 = (0 : Int32))) (q10 : ¬ (h5.1 l0 16 = (0 : Int32))) (q11 : ¬ (l2 = (4 : Int32))) (q12 : ¬ (l2 = (5 : Int32))) (q13 : l2 = (4 : Int32)) (q14 : r0 - r0 / (2 : Int32) * (2 : Int32) = (0 : Int32)) (q15 : r2 = (3 : Int32)) (q16 : xm_V X P d 221 [.int (r0 / (2 : Int32)), .int r1, .int (2 : Int32), .int r3, .int (0 : Int32)] h5 (some (.int r6)) h6) : xm_E X P d co_X11_moved 0 [some (.ref l0), some (.int l1), some (.int l2), none, none, none, none, none] [] h (some (.int r6)) h6 := by
  refine xm_E_s r_X11_moved_0 rfl rfl ?_
  refine xm_E_cs [.int l1] [] r_X11_moved_1 rfl rfl rfl (Nat.le_of_ble_eq_true rfl) rfl q0 ?_
  refine xm_E_s (ls1 := [some (.ref l0), some (.int l1), some (.int l2), some (.int r0), none, none, none, none]) r_X11_moved_2 rfl rfl ?_
  refine xm_E_s r_X11_moved_3 rfl rfl ?_
  refine xm_E_cs [.int l1] [] r_X11_moved_4 rfl rfl rfl (Nat.le_of_ble_eq_true rfl) rfl q1 ?_
  refine xm_E_s (ls1 := [some (.ref l0), some (.int l1), some (.int l2), some (.int r0), some (.int r1), none, none, none]) r_X11_moved_5 rfl rfl ?_
  refine xm_E_s r_X11_moved_6 rfl rfl ?_
  refine xm_E_cs [.int l1] [] r_X11_moved_7 rfl rfl rfl (Nat.le_of_ble_eq_true rfl) rfl q2 ?_
  refine xm_E_s (ls1 := [some (.ref l0), some (.int l1), some (.int l2), some (.int r0), some (.int r1), some (.int r2), none, none]) r_X11_moved_8 rfl rfl ?_
  refine xm_E_s r_X11_moved_9 rfl rfl ?_
  refine xm_E_cs [.int l1] [] r_X11_moved_10 rfl rfl rfl (Nat.le_of_ble_eq_true rfl) rfl q3 ?_
  refine xm_E_s (ls1 := [some (.ref l0), some (.int l1), some (.int l2), some (.int r0), some (.int r1), some (.int r2), some (.int r3), none]) r_X11_moved_11 rfl rfl ?_
  refine xm_E_s r_X11_moved_12 rfl rfl ?_
  refine xm_E_cs [.int l1] [] r_X11_moved_13 rfl rfl rfl (Nat.le_of_ble_eq_true rfl) rfl q4 ?_
  refine xm_E_s (ls1 := [some (.ref l0), some (.int l1), some (.int l2), some (.int r0), some (.int r1), some (.int r2), some (.int r3), some (.int r4)]) r_X11_moved_14 rfl rfl ?_
  refine xm_E_s r_X11_moved_15 rfl rfl ?_
  refine xm_E_s r_X11_moved_16 rfl rfl ?_
  refine xm_E_s r_X11_moved_17 rfl rfl ?_
  refine xm_E_f q5 ?_
  refine xm_E_s r_X11_moved_37 rfl rfl ?_
  refine xm_E_s r_X11_moved_38 rfl rfl ?_
  refine xm_E_t q6 ?_
  refine xm_E_s r_X11_moved_39 rfl rfl ?_
  refine xm_E_s r_X11_moved_40 rfl rfl ?_
  refine xm_E_s r_X11_moved_41 rfl rfl ?_
  refine xm_E_cv [.ref l0, .int l1, .int l2] [] r_X11_moved_42 rfl rfl (Nat.le_of_ble_eq_true rfl) (xm_rc q8 (by decide)) rfl q7 ?_
  refine xm_E_s r_X11_moved_43 rfl rfl ?_
  refine xm_E_f q9 ?_
  refine xm_E_s r_X11_moved_44 rfl rfl ?_
  refine xm_E_s r_X11_moved_45 rfl (xm_T_gi rfl q8 rfl (Or.inr rfl)) ?_
  refine xm_E_s r_X11_moved_46 rfl rfl ?_
  refine xm_E_f q10 ?_
  refine xm_E_s r_X11_moved_47 rfl rfl ?_
  refine xm_E_s r_X11_moved_48 rfl rfl ?_
  refine xm_E_s r_X11_moved_49 rfl rfl ?_
  refine xm_E_f q11 ?_
  refine xm_E_s r_X11_moved_50 rfl rfl ?_
  refine xm_E_s r_X11_moved_51 rfl rfl ?_
  refine xm_E_s r_X11_moved_52 rfl rfl ?_
  refine xm_E_f q12 ?_
  refine xm_E_s r_X11_moved_55 rfl rfl ?_
  refine xm_E_s r_X11_moved_56 rfl (xm_T_tab (4 : Int32) 144 rfl q13 (by decide) rfl) ?_
  refine xm_E_s r_X11_moved_144 rfl rfl ?_
  refine xm_E_s r_X11_moved_145 rfl rfl ?_
  refine xm_E_s r_X11_moved_146 rfl (xm_T_irem rfl (by decide)) ?_
  refine xm_E_s r_X11_moved_147 rfl rfl ?_
  refine xm_E_t q14 ?_
  refine xm_E_s r_X11_moved_150 rfl rfl ?_
  refine xm_E_s r_X11_moved_151 rfl rfl ?_
  refine xm_E_s r_X11_moved_152 rfl (xm_T_idiv rfl (by decide)) ?_
  refine xm_E_s r_X11_moved_153 rfl rfl ?_
  refine xm_E_s r_X11_moved_154 rfl rfl ?_
  refine xm_E_s r_X11_moved_155 rfl rfl ?_
  refine xm_E_s r_X11_moved_156 rfl rfl ?_
  refine xm_E_t q15 ?_
  refine xm_E_s r_X11_moved_157 rfl rfl ?_
  refine xm_E_s r_X11_moved_158 rfl rfl ?_
  refine xm_E_s r_X11_moved_160 rfl rfl ?_
  refine xm_E_s r_X11_moved_161 rfl rfl ?_
  refine xm_E_cs [.int (r0 / (2 : Int32)), .int r1, .int (2 : Int32), .int r3, .int (0 : Int32)] [] r_X11_moved_162 rfl rfl rfl (Nat.le_of_ble_eq_true rfl) rfl q16 ?_
  exact xm_E_iret r_X11_moved_163 rfl rfl
theorem w_X11_moved_0_43 {X : xm_X} {P : List xm_M} {d : Nat} {h : xm_H} {l0 : Nat} {l1 : Int32} {l2 : Int32} {h0 : xm_H} {r0 : Int32} {h1 : xm_H} {r1 : Int32} {h2 : xm_H} {r2 : Int32} {h3 : xm_H} {r3 : Int32} {h4 : xm_H} {r4 : Int32} {h5 : xm_H} {r5 : Int32} {h6 : xm_H} {r6 : Int32} (q0 : xm_V X P d 224 [.int l1] h (some (.int r0)) h0) (q1 : xm_V X P d 225 [.int l1] h0 (some (.int r1)) h1) (q2 : xm_V X P d 226 [.int l1] h1 (some (.int r2)) h2) (q3 : xm_V X P d 227 [.int l1] h2 (some (.int r3)) h3) (q4 : xm_V X P d 228 [.int l1] h3 (some (.int r4)) h4) (q5 : ¬ (l2 = (9 : Int32))) (q6 : r4 = (0 : Int32)) (q7 : xm_V X P d 229 [.ref l0, .int l1, .int l2] h4 (some (.int r5)) h5) (q8 : X.1[l0]? = some (.inr 10)) (q9 : ¬ (r5 = (0 : Int32))) (q10 : ¬ (h5.1 l0 16 = (0 : Int32))) (q11 : ¬ (l2 = (4 : Int32))) (q12 : ¬ (l2 = (5 : Int32))) (q13 : l2 = (4 : Int32)) (q14 : r0 - r0 / (2 : Int32) * (2 : Int32) = (0 : Int32)) (q15 : ¬ (r2 = (3 : Int32))) (q16 : xm_V X P d 221 [.int (r0 / (2 : Int32)), .int r1, .int r2, .int r3, .int (0 : Int32)] h5 (some (.int r6)) h6) : xm_E X P d co_X11_moved 0 [some (.ref l0), some (.int l1), some (.int l2), none, none, none, none, none] [] h (some (.int r6)) h6 := by
  refine xm_E_s r_X11_moved_0 rfl rfl ?_
  refine xm_E_cs [.int l1] [] r_X11_moved_1 rfl rfl rfl (Nat.le_of_ble_eq_true rfl) rfl q0 ?_
  refine xm_E_s (ls1 := [some (.ref l0), some (.int l1), some (.int l2), some (.int r0), none, none, none, none]) r_X11_moved_2 rfl rfl ?_
  refine xm_E_s r_X11_moved_3 rfl rfl ?_
  refine xm_E_cs [.int l1] [] r_X11_moved_4 rfl rfl rfl (Nat.le_of_ble_eq_true rfl) rfl q1 ?_
  refine xm_E_s (ls1 := [some (.ref l0), some (.int l1), some (.int l2), some (.int r0), some (.int r1), none, none, none]) r_X11_moved_5 rfl rfl ?_
  refine xm_E_s r_X11_moved_6 rfl rfl ?_
  refine xm_E_cs [.int l1] [] r_X11_moved_7 rfl rfl rfl (Nat.le_of_ble_eq_true rfl) rfl q2 ?_
  refine xm_E_s (ls1 := [some (.ref l0), some (.int l1), some (.int l2), some (.int r0), some (.int r1), some (.int r2), none, none]) r_X11_moved_8 rfl rfl ?_
  refine xm_E_s r_X11_moved_9 rfl rfl ?_
  refine xm_E_cs [.int l1] [] r_X11_moved_10 rfl rfl rfl (Nat.le_of_ble_eq_true rfl) rfl q3 ?_
  refine xm_E_s (ls1 := [some (.ref l0), some (.int l1), some (.int l2), some (.int r0), some (.int r1), some (.int r2), some (.int r3), none]) r_X11_moved_11 rfl rfl ?_
  refine xm_E_s r_X11_moved_12 rfl rfl ?_
  refine xm_E_cs [.int l1] [] r_X11_moved_13 rfl rfl rfl (Nat.le_of_ble_eq_true rfl) rfl q4 ?_
  refine xm_E_s (ls1 := [some (.ref l0), some (.int l1), some (.int l2), some (.int r0), some (.int r1), some (.int r2), some (.int r3), some (.int r4)]) r_X11_moved_14 rfl rfl ?_
  refine xm_E_s r_X11_moved_15 rfl rfl ?_
  refine xm_E_s r_X11_moved_16 rfl rfl ?_
  refine xm_E_s r_X11_moved_17 rfl rfl ?_
  refine xm_E_f q5 ?_
  refine xm_E_s r_X11_moved_37 rfl rfl ?_
  refine xm_E_s r_X11_moved_38 rfl rfl ?_
  refine xm_E_t q6 ?_
  refine xm_E_s r_X11_moved_39 rfl rfl ?_
  refine xm_E_s r_X11_moved_40 rfl rfl ?_
  refine xm_E_s r_X11_moved_41 rfl rfl ?_
  refine xm_E_cv [.ref l0, .int l1, .int l2] [] r_X11_moved_42 rfl rfl (Nat.le_of_ble_eq_true rfl) (xm_rc q8 (by decide)) rfl q7 ?_
  refine xm_E_s r_X11_moved_43 rfl rfl ?_
  refine xm_E_f q9 ?_
  refine xm_E_s r_X11_moved_44 rfl rfl ?_
  refine xm_E_s r_X11_moved_45 rfl (xm_T_gi rfl q8 rfl (Or.inr rfl)) ?_
  refine xm_E_s r_X11_moved_46 rfl rfl ?_
  refine xm_E_f q10 ?_
  refine xm_E_s r_X11_moved_47 rfl rfl ?_
  refine xm_E_s r_X11_moved_48 rfl rfl ?_
  refine xm_E_s r_X11_moved_49 rfl rfl ?_
  refine xm_E_f q11 ?_
  refine xm_E_s r_X11_moved_50 rfl rfl ?_
  refine xm_E_s r_X11_moved_51 rfl rfl ?_
  refine xm_E_s r_X11_moved_52 rfl rfl ?_
  refine xm_E_f q12 ?_
  refine xm_E_s r_X11_moved_55 rfl rfl ?_
  refine xm_E_s r_X11_moved_56 rfl (xm_T_tab (4 : Int32) 144 rfl q13 (by decide) rfl) ?_
  refine xm_E_s r_X11_moved_144 rfl rfl ?_
  refine xm_E_s r_X11_moved_145 rfl rfl ?_
  refine xm_E_s r_X11_moved_146 rfl (xm_T_irem rfl (by decide)) ?_
  refine xm_E_s r_X11_moved_147 rfl rfl ?_
  refine xm_E_t q14 ?_
  refine xm_E_s r_X11_moved_150 rfl rfl ?_
  refine xm_E_s r_X11_moved_151 rfl rfl ?_
  refine xm_E_s r_X11_moved_152 rfl (xm_T_idiv rfl (by decide)) ?_
  refine xm_E_s r_X11_moved_153 rfl rfl ?_
  refine xm_E_s r_X11_moved_154 rfl rfl ?_
  refine xm_E_s r_X11_moved_155 rfl rfl ?_
  refine xm_E_s r_X11_moved_156 rfl rfl ?_
  refine xm_E_f q15 ?_
  refine xm_E_s r_X11_moved_159 rfl rfl ?_
  refine xm_E_s r_X11_moved_160 rfl rfl ?_
  refine xm_E_s r_X11_moved_161 rfl rfl ?_
  refine xm_E_cs [.int (r0 / (2 : Int32)), .int r1, .int r2, .int r3, .int (0 : Int32)] [] r_X11_moved_162 rfl rfl rfl (Nat.le_of_ble_eq_true rfl) rfl q16 ?_
  exact xm_E_iret r_X11_moved_163 rfl rfl
theorem w_X11_moved_0_44 {X : xm_X} {P : List xm_M} {d : Nat} {h : xm_H} {l0 : Nat} {l1 : Int32} {l2 : Int32} {h0 : xm_H} {r0 : Int32} {h1 : xm_H} {r1 : Int32} {h2 : xm_H} {r2 : Int32} {h3 : xm_H} {r3 : Int32} {h4 : xm_H} {r4 : Int32} {h5 : xm_H} {r5 : Int32} (q0 : xm_V X P d 224 [.int l1] h (some (.int r0)) h0) (q1 : xm_V X P d 225 [.int l1] h0 (some (.int r1)) h1) (q2 : xm_V X P d 226 [.int l1] h1 (some (.int r2)) h2) (q3 : xm_V X P d 227 [.int l1] h2 (some (.int r3)) h3) (q4 : xm_V X P d 228 [.int l1] h3 (some (.int r4)) h4) (q5 : ¬ (l2 = (9 : Int32))) (q6 : r4 = (0 : Int32)) (q7 : xm_V X P d 229 [.ref l0, .int l1, .int l2] h4 (some (.int r5)) h5) (q8 : X.1[l0]? = some (.inr 10)) (q9 : ¬ (r5 = (0 : Int32))) (q10 : ¬ (h5.1 l0 16 = (0 : Int32))) (q11 : ¬ (l2 = (4 : Int32))) (q12 : ¬ (l2 = (5 : Int32))) (q13 : l2 = (4 : Int32)) (q14 : ¬ (r0 - r0 / (2 : Int32) * (2 : Int32) = (0 : Int32))) : xm_E X P d co_X11_moved 0 [some (.ref l0), some (.int l1), some (.int l2), none, none, none, none, none] [] h (some (.int (-1 : Int32))) h5 := by
  refine xm_E_s r_X11_moved_0 rfl rfl ?_
  refine xm_E_cs [.int l1] [] r_X11_moved_1 rfl rfl rfl (Nat.le_of_ble_eq_true rfl) rfl q0 ?_
  refine xm_E_s (ls1 := [some (.ref l0), some (.int l1), some (.int l2), some (.int r0), none, none, none, none]) r_X11_moved_2 rfl rfl ?_
  refine xm_E_s r_X11_moved_3 rfl rfl ?_
  refine xm_E_cs [.int l1] [] r_X11_moved_4 rfl rfl rfl (Nat.le_of_ble_eq_true rfl) rfl q1 ?_
  refine xm_E_s (ls1 := [some (.ref l0), some (.int l1), some (.int l2), some (.int r0), some (.int r1), none, none, none]) r_X11_moved_5 rfl rfl ?_
  refine xm_E_s r_X11_moved_6 rfl rfl ?_
  refine xm_E_cs [.int l1] [] r_X11_moved_7 rfl rfl rfl (Nat.le_of_ble_eq_true rfl) rfl q2 ?_
  refine xm_E_s (ls1 := [some (.ref l0), some (.int l1), some (.int l2), some (.int r0), some (.int r1), some (.int r2), none, none]) r_X11_moved_8 rfl rfl ?_
  refine xm_E_s r_X11_moved_9 rfl rfl ?_
  refine xm_E_cs [.int l1] [] r_X11_moved_10 rfl rfl rfl (Nat.le_of_ble_eq_true rfl) rfl q3 ?_
  refine xm_E_s (ls1 := [some (.ref l0), some (.int l1), some (.int l2), some (.int r0), some (.int r1), some (.int r2), some (.int r3), none]) r_X11_moved_11 rfl rfl ?_
  refine xm_E_s r_X11_moved_12 rfl rfl ?_
  refine xm_E_cs [.int l1] [] r_X11_moved_13 rfl rfl rfl (Nat.le_of_ble_eq_true rfl) rfl q4 ?_
  refine xm_E_s (ls1 := [some (.ref l0), some (.int l1), some (.int l2), some (.int r0), some (.int r1), some (.int r2), some (.int r3), some (.int r4)]) r_X11_moved_14 rfl rfl ?_
  refine xm_E_s r_X11_moved_15 rfl rfl ?_
  refine xm_E_s r_X11_moved_16 rfl rfl ?_
  refine xm_E_s r_X11_moved_17 rfl rfl ?_
  refine xm_E_f q5 ?_
  refine xm_E_s r_X11_moved_37 rfl rfl ?_
  refine xm_E_s r_X11_moved_38 rfl rfl ?_
  refine xm_E_t q6 ?_
  refine xm_E_s r_X11_moved_39 rfl rfl ?_
  refine xm_E_s r_X11_moved_40 rfl rfl ?_
  refine xm_E_s r_X11_moved_41 rfl rfl ?_
  refine xm_E_cv [.ref l0, .int l1, .int l2] [] r_X11_moved_42 rfl rfl (Nat.le_of_ble_eq_true rfl) (xm_rc q8 (by decide)) rfl q7 ?_
  refine xm_E_s r_X11_moved_43 rfl rfl ?_
  refine xm_E_f q9 ?_
  refine xm_E_s r_X11_moved_44 rfl rfl ?_
  refine xm_E_s r_X11_moved_45 rfl (xm_T_gi rfl q8 rfl (Or.inr rfl)) ?_
  refine xm_E_s r_X11_moved_46 rfl rfl ?_
  refine xm_E_f q10 ?_
  refine xm_E_s r_X11_moved_47 rfl rfl ?_
  refine xm_E_s r_X11_moved_48 rfl rfl ?_
  refine xm_E_s r_X11_moved_49 rfl rfl ?_
  refine xm_E_f q11 ?_
  refine xm_E_s r_X11_moved_50 rfl rfl ?_
  refine xm_E_s r_X11_moved_51 rfl rfl ?_
  refine xm_E_s r_X11_moved_52 rfl rfl ?_
  refine xm_E_f q12 ?_
  refine xm_E_s r_X11_moved_55 rfl rfl ?_
  refine xm_E_s r_X11_moved_56 rfl (xm_T_tab (4 : Int32) 144 rfl q13 (by decide) rfl) ?_
  refine xm_E_s r_X11_moved_144 rfl rfl ?_
  refine xm_E_s r_X11_moved_145 rfl rfl ?_
  refine xm_E_s r_X11_moved_146 rfl (xm_T_irem rfl (by decide)) ?_
  refine xm_E_s r_X11_moved_147 rfl rfl ?_
  refine xm_E_f q14 ?_
  refine xm_E_s r_X11_moved_148 rfl rfl ?_
  refine xm_E_s r_X11_moved_149 rfl rfl ?_
  exact xm_E_iret r_X11_moved_163 rfl rfl
theorem w_X11_moved_0_45 {X : xm_X} {P : List xm_M} {d : Nat} {h : xm_H} {l0 : Nat} {l1 : Int32} {l2 : Int32} {h0 : xm_H} {r0 : Int32} {h1 : xm_H} {r1 : Int32} {h2 : xm_H} {r2 : Int32} {h3 : xm_H} {r3 : Int32} {h4 : xm_H} {r4 : Int32} {h5 : xm_H} {r5 : Int32} {h6 : xm_H} {r6 : Int32} (q0 : xm_V X P d 224 [.int l1] h (some (.int r0)) h0) (q1 : xm_V X P d 225 [.int l1] h0 (some (.int r1)) h1) (q2 : xm_V X P d 226 [.int l1] h1 (some (.int r2)) h2) (q3 : xm_V X P d 227 [.int l1] h2 (some (.int r3)) h3) (q4 : xm_V X P d 228 [.int l1] h3 (some (.int r4)) h4) (q5 : ¬ (l2 = (9 : Int32))) (q6 : r4 = (0 : Int32)) (q7 : xm_V X P d 229 [.ref l0, .int l1, .int l2] h4 (some (.int r5)) h5) (q8 : X.1[l0]? = some (.inr 10)) (q9 : ¬ (r5 = (0 : Int32))) (q10 : ¬ (h5.1 l0 16 = (0 : Int32))) (q11 : ¬ (l2 = (4 : Int32))) (q12 : ¬ (l2 = (5 : Int32))) (q13 : l2 = (5 : Int32)) (q14 : r0 - r0 / (2 : Int32) * (2 : Int32) = (0 : Int32)) (q15 : r2 = (2 : Int32)) (q16 : xm_V X P d 221 [.int (r0 / (2 : Int32)), .int r1, .int (4 : Int32), .int ((1 : Int32) - r3), .int (0 : Int32)] h5 (some (.int r6)) h6) : xm_E X P d co_X11_moved 0 [some (.ref l0), some (.int l1), some (.int l2), none, none, none, none, none] [] h (some (.int r6)) h6 := by
  refine xm_E_s r_X11_moved_0 rfl rfl ?_
  refine xm_E_cs [.int l1] [] r_X11_moved_1 rfl rfl rfl (Nat.le_of_ble_eq_true rfl) rfl q0 ?_
  refine xm_E_s (ls1 := [some (.ref l0), some (.int l1), some (.int l2), some (.int r0), none, none, none, none]) r_X11_moved_2 rfl rfl ?_
  refine xm_E_s r_X11_moved_3 rfl rfl ?_
  refine xm_E_cs [.int l1] [] r_X11_moved_4 rfl rfl rfl (Nat.le_of_ble_eq_true rfl) rfl q1 ?_
  refine xm_E_s (ls1 := [some (.ref l0), some (.int l1), some (.int l2), some (.int r0), some (.int r1), none, none, none]) r_X11_moved_5 rfl rfl ?_
  refine xm_E_s r_X11_moved_6 rfl rfl ?_
  refine xm_E_cs [.int l1] [] r_X11_moved_7 rfl rfl rfl (Nat.le_of_ble_eq_true rfl) rfl q2 ?_
  refine xm_E_s (ls1 := [some (.ref l0), some (.int l1), some (.int l2), some (.int r0), some (.int r1), some (.int r2), none, none]) r_X11_moved_8 rfl rfl ?_
  refine xm_E_s r_X11_moved_9 rfl rfl ?_
  refine xm_E_cs [.int l1] [] r_X11_moved_10 rfl rfl rfl (Nat.le_of_ble_eq_true rfl) rfl q3 ?_
  refine xm_E_s (ls1 := [some (.ref l0), some (.int l1), some (.int l2), some (.int r0), some (.int r1), some (.int r2), some (.int r3), none]) r_X11_moved_11 rfl rfl ?_
  refine xm_E_s r_X11_moved_12 rfl rfl ?_
  refine xm_E_cs [.int l1] [] r_X11_moved_13 rfl rfl rfl (Nat.le_of_ble_eq_true rfl) rfl q4 ?_
  refine xm_E_s (ls1 := [some (.ref l0), some (.int l1), some (.int l2), some (.int r0), some (.int r1), some (.int r2), some (.int r3), some (.int r4)]) r_X11_moved_14 rfl rfl ?_
  refine xm_E_s r_X11_moved_15 rfl rfl ?_
  refine xm_E_s r_X11_moved_16 rfl rfl ?_
  refine xm_E_s r_X11_moved_17 rfl rfl ?_
  refine xm_E_f q5 ?_
  refine xm_E_s r_X11_moved_37 rfl rfl ?_
  refine xm_E_s r_X11_moved_38 rfl rfl ?_
  refine xm_E_t q6 ?_
  refine xm_E_s r_X11_moved_39 rfl rfl ?_
  refine xm_E_s r_X11_moved_40 rfl rfl ?_
  refine xm_E_s r_X11_moved_41 rfl rfl ?_
  refine xm_E_cv [.ref l0, .int l1, .int l2] [] r_X11_moved_42 rfl rfl (Nat.le_of_ble_eq_true rfl) (xm_rc q8 (by decide)) rfl q7 ?_
  refine xm_E_s r_X11_moved_43 rfl rfl ?_
  refine xm_E_f q9 ?_
  refine xm_E_s r_X11_moved_44 rfl rfl ?_
  refine xm_E_s r_X11_moved_45 rfl (xm_T_gi rfl q8 rfl (Or.inr rfl)) ?_
  refine xm_E_s r_X11_moved_46 rfl rfl ?_
  refine xm_E_f q10 ?_
  refine xm_E_s r_X11_moved_47 rfl rfl ?_
  refine xm_E_s r_X11_moved_48 rfl rfl ?_
  refine xm_E_s r_X11_moved_49 rfl rfl ?_
  refine xm_E_f q11 ?_
  refine xm_E_s r_X11_moved_50 rfl rfl ?_
  refine xm_E_s r_X11_moved_51 rfl rfl ?_
  refine xm_E_s r_X11_moved_52 rfl rfl ?_
  refine xm_E_f q12 ?_
  refine xm_E_s r_X11_moved_55 rfl rfl ?_
  refine xm_E_s r_X11_moved_56 rfl (xm_T_tab (5 : Int32) 164 rfl q13 (by decide) rfl) ?_
  refine xm_E_s r_X11_moved_164 rfl rfl ?_
  refine xm_E_s r_X11_moved_165 rfl rfl ?_
  refine xm_E_s r_X11_moved_166 rfl (xm_T_irem rfl (by decide)) ?_
  refine xm_E_s r_X11_moved_167 rfl rfl ?_
  refine xm_E_t q14 ?_
  refine xm_E_s r_X11_moved_170 rfl rfl ?_
  refine xm_E_s r_X11_moved_171 rfl rfl ?_
  refine xm_E_s r_X11_moved_172 rfl (xm_T_idiv rfl (by decide)) ?_
  refine xm_E_s r_X11_moved_173 rfl rfl ?_
  refine xm_E_s r_X11_moved_174 rfl rfl ?_
  refine xm_E_s r_X11_moved_175 rfl rfl ?_
  refine xm_E_s r_X11_moved_176 rfl rfl ?_
  refine xm_E_t q15 ?_
  refine xm_E_s r_X11_moved_180 rfl rfl ?_
  refine xm_E_s r_X11_moved_181 rfl rfl ?_
  refine xm_E_s r_X11_moved_183 rfl rfl ?_
  refine xm_E_s r_X11_moved_184 rfl rfl ?_
  refine xm_E_s r_X11_moved_185 rfl rfl ?_
  refine xm_E_s r_X11_moved_186 rfl rfl ?_
  refine xm_E_cs [.int (r0 / (2 : Int32)), .int r1, .int (4 : Int32), .int ((1 : Int32) - r3), .int (0 : Int32)] [] r_X11_moved_187 rfl rfl rfl (Nat.le_of_ble_eq_true rfl) rfl q16 ?_
  exact xm_E_iret r_X11_moved_188 rfl rfl
theorem w_X11_moved_0_46 {X : xm_X} {P : List xm_M} {d : Nat} {h : xm_H} {l0 : Nat} {l1 : Int32} {l2 : Int32} {h0 : xm_H} {r0 : Int32} {h1 : xm_H} {r1 : Int32} {h2 : xm_H} {r2 : Int32} {h3 : xm_H} {r3 : Int32} {h4 : xm_H} {r4 : Int32} {h5 : xm_H} {r5 : Int32} {h6 : xm_H} {r6 : Int32} (q0 : xm_V X P d 224 [.int l1] h (some (.int r0)) h0) (q1 : xm_V X P d 225 [.int l1] h0 (some (.int r1)) h1) (q2 : xm_V X P d 226 [.int l1] h1 (some (.int r2)) h2) (q3 : xm_V X P d 227 [.int l1] h2 (some (.int r3)) h3) (q4 : xm_V X P d 228 [.int l1] h3 (some (.int r4)) h4) (q5 : ¬ (l2 = (9 : Int32))) (q6 : r4 = (0 : Int32)) (q7 : xm_V X P d 229 [.ref l0, .int l1, .int l2] h4 (some (.int r5)) h5) (q8 : X.1[l0]? = some (.inr 10)) (q9 : ¬ (r5 = (0 : Int32))) (q10 : ¬ (h5.1 l0 16 = (0 : Int32))) (q11 : ¬ (l2 = (4 : Int32))) (q12 : ¬ (l2 = (5 : Int32))) (q13 : l2 = (5 : Int32)) (q14 : r0 - r0 / (2 : Int32) * (2 : Int32) = (0 : Int32)) (q15 : ¬ (r2 = (2 : Int32))) (q16 : r2 = (3 : Int32)) (q17 : xm_V X P d 221 [.int (r0 / (2 : Int32)), .int r1, .int (4 : Int32), .int ((1 : Int32) - r3), .int (0 : Int32)] h5 (some (.int r6)) h6) : xm_E X P d co_X11_moved 0 [some (.ref l0), some (.int l1), some (.int l2), none, none, none, none, none] [] h (some (.int r6)) h6 := by
  refine xm_E_s r_X11_moved_0 rfl rfl ?_
  refine xm_E_cs [.int l1] [] r_X11_moved_1 rfl rfl rfl (Nat.le_of_ble_eq_true rfl) rfl q0 ?_
  refine xm_E_s (ls1 := [some (.ref l0), some (.int l1), some (.int l2), some (.int r0), none, none, none, none]) r_X11_moved_2 rfl rfl ?_
  refine xm_E_s r_X11_moved_3 rfl rfl ?_
  refine xm_E_cs [.int l1] [] r_X11_moved_4 rfl rfl rfl (Nat.le_of_ble_eq_true rfl) rfl q1 ?_
  refine xm_E_s (ls1 := [some (.ref l0), some (.int l1), some (.int l2), some (.int r0), some (.int r1), none, none, none]) r_X11_moved_5 rfl rfl ?_
  refine xm_E_s r_X11_moved_6 rfl rfl ?_
  refine xm_E_cs [.int l1] [] r_X11_moved_7 rfl rfl rfl (Nat.le_of_ble_eq_true rfl) rfl q2 ?_
  refine xm_E_s (ls1 := [some (.ref l0), some (.int l1), some (.int l2), some (.int r0), some (.int r1), some (.int r2), none, none]) r_X11_moved_8 rfl rfl ?_
  refine xm_E_s r_X11_moved_9 rfl rfl ?_
  refine xm_E_cs [.int l1] [] r_X11_moved_10 rfl rfl rfl (Nat.le_of_ble_eq_true rfl) rfl q3 ?_
  refine xm_E_s (ls1 := [some (.ref l0), some (.int l1), some (.int l2), some (.int r0), some (.int r1), some (.int r2), some (.int r3), none]) r_X11_moved_11 rfl rfl ?_
  refine xm_E_s r_X11_moved_12 rfl rfl ?_
  refine xm_E_cs [.int l1] [] r_X11_moved_13 rfl rfl rfl (Nat.le_of_ble_eq_true rfl) rfl q4 ?_
  refine xm_E_s (ls1 := [some (.ref l0), some (.int l1), some (.int l2), some (.int r0), some (.int r1), some (.int r2), some (.int r3), some (.int r4)]) r_X11_moved_14 rfl rfl ?_
  refine xm_E_s r_X11_moved_15 rfl rfl ?_
  refine xm_E_s r_X11_moved_16 rfl rfl ?_
  refine xm_E_s r_X11_moved_17 rfl rfl ?_
  refine xm_E_f q5 ?_
  refine xm_E_s r_X11_moved_37 rfl rfl ?_
  refine xm_E_s r_X11_moved_38 rfl rfl ?_
  refine xm_E_t q6 ?_
  refine xm_E_s r_X11_moved_39 rfl rfl ?_
  refine xm_E_s r_X11_moved_40 rfl rfl ?_
  refine xm_E_s r_X11_moved_41 rfl rfl ?_
  refine xm_E_cv [.ref l0, .int l1, .int l2] [] r_X11_moved_42 rfl rfl (Nat.le_of_ble_eq_true rfl) (xm_rc q8 (by decide)) rfl q7 ?_
  refine xm_E_s r_X11_moved_43 rfl rfl ?_
  refine xm_E_f q9 ?_
  refine xm_E_s r_X11_moved_44 rfl rfl ?_
  refine xm_E_s r_X11_moved_45 rfl (xm_T_gi rfl q8 rfl (Or.inr rfl)) ?_
  refine xm_E_s r_X11_moved_46 rfl rfl ?_
  refine xm_E_f q10 ?_
  refine xm_E_s r_X11_moved_47 rfl rfl ?_
  refine xm_E_s r_X11_moved_48 rfl rfl ?_
  refine xm_E_s r_X11_moved_49 rfl rfl ?_
  refine xm_E_f q11 ?_
  refine xm_E_s r_X11_moved_50 rfl rfl ?_
  refine xm_E_s r_X11_moved_51 rfl rfl ?_
  refine xm_E_s r_X11_moved_52 rfl rfl ?_
  refine xm_E_f q12 ?_
  refine xm_E_s r_X11_moved_55 rfl rfl ?_
  refine xm_E_s r_X11_moved_56 rfl (xm_T_tab (5 : Int32) 164 rfl q13 (by decide) rfl) ?_
  refine xm_E_s r_X11_moved_164 rfl rfl ?_
  refine xm_E_s r_X11_moved_165 rfl rfl ?_
  refine xm_E_s r_X11_moved_166 rfl (xm_T_irem rfl (by decide)) ?_
  refine xm_E_s r_X11_moved_167 rfl rfl ?_
  refine xm_E_t q14 ?_
  refine xm_E_s r_X11_moved_170 rfl rfl ?_
  refine xm_E_s r_X11_moved_171 rfl rfl ?_
  refine xm_E_s r_X11_moved_172 rfl (xm_T_idiv rfl (by decide)) ?_
  refine xm_E_s r_X11_moved_173 rfl rfl ?_
  refine xm_E_s r_X11_moved_174 rfl rfl ?_
  refine xm_E_s r_X11_moved_175 rfl rfl ?_
  refine xm_E_s r_X11_moved_176 rfl rfl ?_
  refine xm_E_f q15 ?_
  refine xm_E_s r_X11_moved_177 rfl rfl ?_
  refine xm_E_s r_X11_moved_178 rfl rfl ?_
  refine xm_E_s r_X11_moved_179 rfl rfl ?_
  refine xm_E_t q16 ?_
  refine xm_E_s r_X11_moved_180 rfl rfl ?_
  refine xm_E_s r_X11_moved_181 rfl rfl ?_
  refine xm_E_s r_X11_moved_183 rfl rfl ?_
  refine xm_E_s r_X11_moved_184 rfl rfl ?_
  refine xm_E_s r_X11_moved_185 rfl rfl ?_
  refine xm_E_s r_X11_moved_186 rfl rfl ?_
  refine xm_E_cs [.int (r0 / (2 : Int32)), .int r1, .int (4 : Int32), .int ((1 : Int32) - r3), .int (0 : Int32)] [] r_X11_moved_187 rfl rfl rfl (Nat.le_of_ble_eq_true rfl) rfl q17 ?_
  exact xm_E_iret r_X11_moved_188 rfl rfl
theorem w_X11_moved_0_47 {X : xm_X} {P : List xm_M} {d : Nat} {h : xm_H} {l0 : Nat} {l1 : Int32} {l2 : Int32} {h0 : xm_H} {r0 : Int32} {h1 : xm_H} {r1 : Int32} {h2 : xm_H} {r2 : Int32} {h3 : xm_H} {r3 : Int32} {h4 : xm_H} {r4 : Int32} {h5 : xm_H} {r5 : Int32} {h6 : xm_H} {r6 : Int32} (q0 : xm_V X P d 224 [.int l1] h (some (.int r0)) h0) (q1 : xm_V X P d 225 [.int l1] h0 (some (.int r1)) h1) (q2 : xm_V X P d 226 [.int l1] h1 (some (.int r2)) h2) (q3 : xm_V X P d 227 [.int l1] h2 (some (.int r3)) h3) (q4 : xm_V X P d 228 [.int l1] h3 (some (.int r4)) h4) (q5 : ¬ (l2 = (9 : Int32))) (q6 : r4 = (0 : Int32)) (q7 : xm_V X P d 229 [.ref l0, .int l1, .int l2] h4 (some (.int r5)) h5) (q8 : X.1[l0]? = some (.inr 10)) (q9 : ¬ (r5 = (0 : Int32))) (q10 : ¬ (h5.1 l0 16 = (0 : Int32))) (q11 : ¬ (l2 = (4 : Int32))) (q12 : ¬ (l2 = (5 : Int32))) (q13 : l2 = (5 : Int32)) (q14 : r0 - r0 / (2 : Int32) * (2 : Int32) = (0 : Int32)) (q15 : ¬ (r2 = (2 : Int32))) (q16 : ¬ (r2 = (3 : Int32))) (q17 : xm_V X P d 221 [.int (r0 / (2 : Int32)), .int r1, .int r2, .int ((1 : Int32) - r3), .int (0 : Int32)] h5 (some (.int r6)) h6) : xm_E X P d co_X11_moved 0 [some (.ref l0), some (.int l1), some (.int l2), none, none, none, none, none] [] h (some (.int r6)) h6 := by
  refine xm_E_s r_X11_moved_0 rfl rfl ?_
  refine xm_E_cs [.int l1] [] r_X11_moved_1 rfl rfl rfl (Nat.le_of_ble_eq_true rfl) rfl q0 ?_
  refine xm_E_s (ls1 := [some (.ref l0), some (.int l1), some (.int l2), some (.int r0), none, none, none, none]) r_X11_moved_2 rfl rfl ?_
  refine xm_E_s r_X11_moved_3 rfl rfl ?_
  refine xm_E_cs [.int l1] [] r_X11_moved_4 rfl rfl rfl (Nat.le_of_ble_eq_true rfl) rfl q1 ?_
  refine xm_E_s (ls1 := [some (.ref l0), some (.int l1), some (.int l2), some (.int r0), some (.int r1), none, none, none]) r_X11_moved_5 rfl rfl ?_
  refine xm_E_s r_X11_moved_6 rfl rfl ?_
  refine xm_E_cs [.int l1] [] r_X11_moved_7 rfl rfl rfl (Nat.le_of_ble_eq_true rfl) rfl q2 ?_
  refine xm_E_s (ls1 := [some (.ref l0), some (.int l1), some (.int l2), some (.int r0), some (.int r1), some (.int r2), none, none]) r_X11_moved_8 rfl rfl ?_
  refine xm_E_s r_X11_moved_9 rfl rfl ?_
  refine xm_E_cs [.int l1] [] r_X11_moved_10 rfl rfl rfl (Nat.le_of_ble_eq_true rfl) rfl q3 ?_
  refine xm_E_s (ls1 := [some (.ref l0), some (.int l1), some (.int l2), some (.int r0), some (.int r1), some (.int r2), some (.int r3), none]) r_X11_moved_11 rfl rfl ?_
  refine xm_E_s r_X11_moved_12 rfl rfl ?_
  refine xm_E_cs [.int l1] [] r_X11_moved_13 rfl rfl rfl (Nat.le_of_ble_eq_true rfl) rfl q4 ?_
  refine xm_E_s (ls1 := [some (.ref l0), some (.int l1), some (.int l2), some (.int r0), some (.int r1), some (.int r2), some (.int r3), some (.int r4)]) r_X11_moved_14 rfl rfl ?_
  refine xm_E_s r_X11_moved_15 rfl rfl ?_
  refine xm_E_s r_X11_moved_16 rfl rfl ?_
  refine xm_E_s r_X11_moved_17 rfl rfl ?_
  refine xm_E_f q5 ?_
  refine xm_E_s r_X11_moved_37 rfl rfl ?_
  refine xm_E_s r_X11_moved_38 rfl rfl ?_
  refine xm_E_t q6 ?_
  refine xm_E_s r_X11_moved_39 rfl rfl ?_
  refine xm_E_s r_X11_moved_40 rfl rfl ?_
  refine xm_E_s r_X11_moved_41 rfl rfl ?_
  refine xm_E_cv [.ref l0, .int l1, .int l2] [] r_X11_moved_42 rfl rfl (Nat.le_of_ble_eq_true rfl) (xm_rc q8 (by decide)) rfl q7 ?_
  refine xm_E_s r_X11_moved_43 rfl rfl ?_
  refine xm_E_f q9 ?_
  refine xm_E_s r_X11_moved_44 rfl rfl ?_
  refine xm_E_s r_X11_moved_45 rfl (xm_T_gi rfl q8 rfl (Or.inr rfl)) ?_
  refine xm_E_s r_X11_moved_46 rfl rfl ?_
  refine xm_E_f q10 ?_
  refine xm_E_s r_X11_moved_47 rfl rfl ?_
  refine xm_E_s r_X11_moved_48 rfl rfl ?_
  refine xm_E_s r_X11_moved_49 rfl rfl ?_
  refine xm_E_f q11 ?_
  refine xm_E_s r_X11_moved_50 rfl rfl ?_
  refine xm_E_s r_X11_moved_51 rfl rfl ?_
  refine xm_E_s r_X11_moved_52 rfl rfl ?_
  refine xm_E_f q12 ?_
  refine xm_E_s r_X11_moved_55 rfl rfl ?_
  refine xm_E_s r_X11_moved_56 rfl (xm_T_tab (5 : Int32) 164 rfl q13 (by decide) rfl) ?_
  refine xm_E_s r_X11_moved_164 rfl rfl ?_
  refine xm_E_s r_X11_moved_165 rfl rfl ?_
  refine xm_E_s r_X11_moved_166 rfl (xm_T_irem rfl (by decide)) ?_
  refine xm_E_s r_X11_moved_167 rfl rfl ?_
  refine xm_E_t q14 ?_
  refine xm_E_s r_X11_moved_170 rfl rfl ?_
  refine xm_E_s r_X11_moved_171 rfl rfl ?_
  refine xm_E_s r_X11_moved_172 rfl (xm_T_idiv rfl (by decide)) ?_
  refine xm_E_s r_X11_moved_173 rfl rfl ?_
  refine xm_E_s r_X11_moved_174 rfl rfl ?_
  refine xm_E_s r_X11_moved_175 rfl rfl ?_
  refine xm_E_s r_X11_moved_176 rfl rfl ?_
  refine xm_E_f q15 ?_
  refine xm_E_s r_X11_moved_177 rfl rfl ?_
  refine xm_E_s r_X11_moved_178 rfl rfl ?_
  refine xm_E_s r_X11_moved_179 rfl rfl ?_
  refine xm_E_f q16 ?_
  refine xm_E_s r_X11_moved_182 rfl rfl ?_
  refine xm_E_s r_X11_moved_183 rfl rfl ?_
  refine xm_E_s r_X11_moved_184 rfl rfl ?_
  refine xm_E_s r_X11_moved_185 rfl rfl ?_
  refine xm_E_s r_X11_moved_186 rfl rfl ?_
  refine xm_E_cs [.int (r0 / (2 : Int32)), .int r1, .int r2, .int ((1 : Int32) - r3), .int (0 : Int32)] [] r_X11_moved_187 rfl rfl rfl (Nat.le_of_ble_eq_true rfl) rfl q17 ?_
  exact xm_E_iret r_X11_moved_188 rfl rfl
theorem w_X11_moved_0_48 {X : xm_X} {P : List xm_M} {d : Nat} {h : xm_H} {l0 : Nat} {l1 : Int32} {l2 : Int32} {h0 : xm_H} {r0 : Int32} {h1 : xm_H} {r1 : Int32} {h2 : xm_H} {r2 : Int32} {h3 : xm_H} {r3 : Int32} {h4 : xm_H} {r4 : Int32} {h5 : xm_H} {r5 : Int32} (q0 : xm_V X P d 224 [.int l1] h (some (.int r0)) h0) (q1 : xm_V X P d 225 [.int l1] h0 (some (.int r1)) h1) (q2 : xm_V X P d 226 [.int l1] h1 (some (.int r2)) h2) (q3 : xm_V X P d 227 [.int l1] h2 (some (.int r3)) h3) (q4 : xm_V X P d 228 [.int l1] h3 (some (.int r4)) h4) (q5 : ¬ (l2 = (9 : Int32))) (q6 : r4 = (0 : Int32)) (q7 : xm_V X P d 229 [.ref l0, .int l1, .int l2] h4 (some (.int r5)) h5) (q8 : X.1[l0]? = some (.inr 10)) (q9 : ¬ (r5 = (0 : Int32))) (q10 : ¬ (h5.1 l0 16 = (0 : Int32))) (q11 : ¬ (l2 = (4 : Int32))) (q12 : ¬ (l2 = (5 : Int32))) (q13 : l2 = (5 : Int32)) (q14 : ¬ (r0 - r0 / (2 : Int32) * (2 : Int32) = (0 : Int32))) : xm_E X P d co_X11_moved 0 [some (.ref l0), some (.int l1), some (.int l2), none, none, none, none, none] [] h (some (.int (-1 : Int32))) h5 := by
  refine xm_E_s r_X11_moved_0 rfl rfl ?_
  refine xm_E_cs [.int l1] [] r_X11_moved_1 rfl rfl rfl (Nat.le_of_ble_eq_true rfl) rfl q0 ?_
  refine xm_E_s (ls1 := [some (.ref l0), some (.int l1), some (.int l2), some (.int r0), none, none, none, none]) r_X11_moved_2 rfl rfl ?_
  refine xm_E_s r_X11_moved_3 rfl rfl ?_
  refine xm_E_cs [.int l1] [] r_X11_moved_4 rfl rfl rfl (Nat.le_of_ble_eq_true rfl) rfl q1 ?_
  refine xm_E_s (ls1 := [some (.ref l0), some (.int l1), some (.int l2), some (.int r0), some (.int r1), none, none, none]) r_X11_moved_5 rfl rfl ?_
  refine xm_E_s r_X11_moved_6 rfl rfl ?_
  refine xm_E_cs [.int l1] [] r_X11_moved_7 rfl rfl rfl (Nat.le_of_ble_eq_true rfl) rfl q2 ?_
  refine xm_E_s (ls1 := [some (.ref l0), some (.int l1), some (.int l2), some (.int r0), some (.int r1), some (.int r2), none, none]) r_X11_moved_8 rfl rfl ?_
  refine xm_E_s r_X11_moved_9 rfl rfl ?_
  refine xm_E_cs [.int l1] [] r_X11_moved_10 rfl rfl rfl (Nat.le_of_ble_eq_true rfl) rfl q3 ?_
  refine xm_E_s (ls1 := [some (.ref l0), some (.int l1), some (.int l2), some (.int r0), some (.int r1), some (.int r2), some (.int r3), none]) r_X11_moved_11 rfl rfl ?_
  refine xm_E_s r_X11_moved_12 rfl rfl ?_
  refine xm_E_cs [.int l1] [] r_X11_moved_13 rfl rfl rfl (Nat.le_of_ble_eq_true rfl) rfl q4 ?_
  refine xm_E_s (ls1 := [some (.ref l0), some (.int l1), some (.int l2), some (.int r0), some (.int r1), some (.int r2), some (.int r3), some (.int r4)]) r_X11_moved_14 rfl rfl ?_
  refine xm_E_s r_X11_moved_15 rfl rfl ?_
  refine xm_E_s r_X11_moved_16 rfl rfl ?_
  refine xm_E_s r_X11_moved_17 rfl rfl ?_
  refine xm_E_f q5 ?_
  refine xm_E_s r_X11_moved_37 rfl rfl ?_
  refine xm_E_s r_X11_moved_38 rfl rfl ?_
  refine xm_E_t q6 ?_
  refine xm_E_s r_X11_moved_39 rfl rfl ?_
  refine xm_E_s r_X11_moved_40 rfl rfl ?_
  refine xm_E_s r_X11_moved_41 rfl rfl ?_
  refine xm_E_cv [.ref l0, .int l1, .int l2] [] r_X11_moved_42 rfl rfl (Nat.le_of_ble_eq_true rfl) (xm_rc q8 (by decide)) rfl q7 ?_
  refine xm_E_s r_X11_moved_43 rfl rfl ?_
  refine xm_E_f q9 ?_
  refine xm_E_s r_X11_moved_44 rfl rfl ?_
  refine xm_E_s r_X11_moved_45 rfl (xm_T_gi rfl q8 rfl (Or.inr rfl)) ?_
  refine xm_E_s r_X11_moved_46 rfl rfl ?_
  refine xm_E_f q10 ?_
  refine xm_E_s r_X11_moved_47 rfl rfl ?_
  refine xm_E_s r_X11_moved_48 rfl rfl ?_
  refine xm_E_s r_X11_moved_49 rfl rfl ?_
  refine xm_E_f q11 ?_
  refine xm_E_s r_X11_moved_50 rfl rfl ?_
  refine xm_E_s r_X11_moved_51 rfl rfl ?_
  refine xm_E_s r_X11_moved_52 rfl rfl ?_
  refine xm_E_f q12 ?_
  refine xm_E_s r_X11_moved_55 rfl rfl ?_
  refine xm_E_s r_X11_moved_56 rfl (xm_T_tab (5 : Int32) 164 rfl q13 (by decide) rfl) ?_
  refine xm_E_s r_X11_moved_164 rfl rfl ?_
  refine xm_E_s r_X11_moved_165 rfl rfl ?_
  refine xm_E_s r_X11_moved_166 rfl (xm_T_irem rfl (by decide)) ?_
  refine xm_E_s r_X11_moved_167 rfl rfl ?_
  refine xm_E_f q14 ?_
  refine xm_E_s r_X11_moved_168 rfl rfl ?_
  refine xm_E_s r_X11_moved_169 rfl rfl ?_
  exact xm_E_iret r_X11_moved_188 rfl rfl
theorem w_X11_moved_0_49 {X : xm_X} {P : List xm_M} {d : Nat} {h : xm_H} {l0 : Nat} {l1 : Int32} {l2 : Int32} {h0 : xm_H} {r0 : Int32} {h1 : xm_H} {r1 : Int32} {h2 : xm_H} {r2 : Int32} {h3 : xm_H} {r3 : Int32} {h4 : xm_H} {r4 : Int32} {h5 : xm_H} {r5 : Int32} {h6 : xm_H} {r6 : Int32} {h7 : xm_H} {r7 : Int32} (q0 : xm_V X P d 224 [.int l1] h (some (.int r0)) h0) (q1 : xm_V X P d 225 [.int l1] h0 (some (.int r1)) h1) (q2 : xm_V X P d 226 [.int l1] h1 (some (.int r2)) h2) (q3 : xm_V X P d 227 [.int l1] h2 (some (.int r3)) h3) (q4 : xm_V X P d 228 [.int l1] h3 (some (.int r4)) h4) (q5 : ¬ (l2 = (9 : Int32))) (q6 : r4 = (0 : Int32)) (q7 : xm_V X P d 229 [.ref l0, .int l1, .int l2] h4 (some (.int r5)) h5) (q8 : X.1[l0]? = some (.inr 10)) (q9 : ¬ (r5 = (0 : Int32))) (q10 : ¬ (h5.1 l0 16 = (0 : Int32))) (q11 : ¬ (l2 = (4 : Int32))) (q12 : ¬ (l2 = (5 : Int32))) (q13 : l2 = (6 : Int32)) (q14 : xm_V X P d 230 [.int r2, .int (0 : Int32), .int (1 : Int32)] h5 (some (.int r6)) h6) (q15 : xm_V X P d 221 [.int r0, .int r1, .int r6, .int ((1 : Int32) - r3), .int (0 : Int32)] h6 (some (.int r7)) h7) : xm_E X P d co_X11_moved 0 [some (.ref l0), some (.int l1), some (.int l2), none, none, none, none, none] [] h (some (.int r7)) h7 := by
  refine xm_E_s r_X11_moved_0 rfl rfl ?_
  refine xm_E_cs [.int l1] [] r_X11_moved_1 rfl rfl rfl (Nat.le_of_ble_eq_true rfl) rfl q0 ?_
  refine xm_E_s (ls1 := [some (.ref l0), some (.int l1), some (.int l2), some (.int r0), none, none, none, none]) r_X11_moved_2 rfl rfl ?_
  refine xm_E_s r_X11_moved_3 rfl rfl ?_
  refine xm_E_cs [.int l1] [] r_X11_moved_4 rfl rfl rfl (Nat.le_of_ble_eq_true rfl) rfl q1 ?_
  refine xm_E_s (ls1 := [some (.ref l0), some (.int l1), some (.int l2), some (.int r0), some (.int r1), none, none, none]) r_X11_moved_5 rfl rfl ?_
  refine xm_E_s r_X11_moved_6 rfl rfl ?_
  refine xm_E_cs [.int l1] [] r_X11_moved_7 rfl rfl rfl (Nat.le_of_ble_eq_true rfl) rfl q2 ?_
  refine xm_E_s (ls1 := [some (.ref l0), some (.int l1), some (.int l2), some (.int r0), some (.int r1), some (.int r2), none, none]) r_X11_moved_8 rfl rfl ?_
  refine xm_E_s r_X11_moved_9 rfl rfl ?_
  refine xm_E_cs [.int l1] [] r_X11_moved_10 rfl rfl rfl (Nat.le_of_ble_eq_true rfl) rfl q3 ?_
  refine xm_E_s (ls1 := [some (.ref l0), some (.int l1), some (.int l2), some (.int r0), some (.int r1), some (.int r2), some (.int r3), none]) r_X11_moved_11 rfl rfl ?_
  refine xm_E_s r_X11_moved_12 rfl rfl ?_
  refine xm_E_cs [.int l1] [] r_X11_moved_13 rfl rfl rfl (Nat.le_of_ble_eq_true rfl) rfl q4 ?_
  refine xm_E_s (ls1 := [some (.ref l0), some (.int l1), some (.int l2), some (.int r0), some (.int r1), some (.int r2), some (.int r3), some (.int r4)]) r_X11_moved_14 rfl rfl ?_
  refine xm_E_s r_X11_moved_15 rfl rfl ?_
  refine xm_E_s r_X11_moved_16 rfl rfl ?_
  refine xm_E_s r_X11_moved_17 rfl rfl ?_
  refine xm_E_f q5 ?_
  refine xm_E_s r_X11_moved_37 rfl rfl ?_
  refine xm_E_s r_X11_moved_38 rfl rfl ?_
  refine xm_E_t q6 ?_
  refine xm_E_s r_X11_moved_39 rfl rfl ?_
  refine xm_E_s r_X11_moved_40 rfl rfl ?_
  refine xm_E_s r_X11_moved_41 rfl rfl ?_
  refine xm_E_cv [.ref l0, .int l1, .int l2] [] r_X11_moved_42 rfl rfl (Nat.le_of_ble_eq_true rfl) (xm_rc q8 (by decide)) rfl q7 ?_
  refine xm_E_s r_X11_moved_43 rfl rfl ?_
  refine xm_E_f q9 ?_
  refine xm_E_s r_X11_moved_44 rfl rfl ?_
  refine xm_E_s r_X11_moved_45 rfl (xm_T_gi rfl q8 rfl (Or.inr rfl)) ?_
  refine xm_E_s r_X11_moved_46 rfl rfl ?_
  refine xm_E_f q10 ?_
  refine xm_E_s r_X11_moved_47 rfl rfl ?_
  refine xm_E_s r_X11_moved_48 rfl rfl ?_
  refine xm_E_s r_X11_moved_49 rfl rfl ?_
  refine xm_E_f q11 ?_
  refine xm_E_s r_X11_moved_50 rfl rfl ?_
  refine xm_E_s r_X11_moved_51 rfl rfl ?_
  refine xm_E_s r_X11_moved_52 rfl rfl ?_
  refine xm_E_f q12 ?_
  refine xm_E_s r_X11_moved_55 rfl rfl ?_
  refine xm_E_s r_X11_moved_56 rfl (xm_T_tab (6 : Int32) 189 rfl q13 (by decide) rfl) ?_
  refine xm_E_s r_X11_moved_189 rfl rfl ?_
  refine xm_E_s r_X11_moved_190 rfl rfl ?_
  refine xm_E_s r_X11_moved_191 rfl rfl ?_
  refine xm_E_s r_X11_moved_192 rfl rfl ?_
  refine xm_E_s r_X11_moved_193 rfl rfl ?_
  refine xm_E_cs [.int r2, .int (0 : Int32), .int (1 : Int32)] [.int r1, .int r0] r_X11_moved_194 rfl rfl rfl (Nat.le_of_ble_eq_true rfl) rfl q14 ?_
  refine xm_E_s r_X11_moved_195 rfl rfl ?_
  refine xm_E_s r_X11_moved_196 rfl rfl ?_
  refine xm_E_s r_X11_moved_197 rfl rfl ?_
  refine xm_E_s r_X11_moved_198 rfl rfl ?_
  refine xm_E_cs [.int r0, .int r1, .int r6, .int ((1 : Int32) - r3), .int (0 : Int32)] [] r_X11_moved_199 rfl rfl rfl (Nat.le_of_ble_eq_true rfl) rfl q15 ?_
  exact xm_E_iret r_X11_moved_200 rfl rfl
theorem w_X11_moved_0_50 {X : xm_X} {P : List xm_M} {d : Nat} {h : xm_H} {l0 : Nat} {l1 : Int32} {l2 : Int32} {h0 : xm_H} {r0 : Int32} {h1 : xm_H} {r1 : Int32} {h2 : xm_H} {r2 : Int32} {h3 : xm_H} {r3 : Int32} {h4 : xm_H} {r4 : Int32} {h5 : xm_H} {r5 : Int32} {h6 : xm_H} {r6 : Int32} {h7 : xm_H} {r7 : Int32} {h8 : xm_H} {r8 : Int32} (q0 : xm_V X P d 224 [.int l1] h (some (.int r0)) h0) (q1 : xm_V X P d 225 [.int l1] h0 (some (.int r1)) h1) (q2 : xm_V X P d 226 [.int l1] h1 (some (.int r2)) h2) (q3 : xm_V X P d 227 [.int l1] h2 (some (.int r3)) h3) (q4 : xm_V X P d 228 [.int l1] h3 (some (.int r4)) h4) (q5 : ¬ (l2 = (9 : Int32))) (q6 : r4 = (0 : Int32)) (q7 : xm_V X P d 229 [.ref l0, .int l1, .int l2] h4 (some (.int r5)) h5) (q8 : X.1[l0]? = some (.inr 10)) (q9 : ¬ (r5 = (0 : Int32))) (q10 : ¬ (h5.1 l0 16 = (0 : Int32))) (q11 : ¬ (l2 = (4 : Int32))) (q12 : ¬ (l2 = (5 : Int32))) (q13 : l2 = (7 : Int32)) (q14 : xm_V X P d 230 [.int r2, .int (0 : Int32), .int (1 : Int32)] h5 (some (.int r6)) h6) (q15 : xm_V X P d 230 [.int r6, .int (2 : Int32), .int (3 : Int32)] h6 (some (.int r7)) h7) (q16 : xm_V X P d 221 [.int r0, .int r1, .int r7, .int r3, .int (0 : Int32)] h7 (some (.int r8)) h8) : xm_E X P d co_X11_moved 0 [some (.ref l0), some (.int l1), some (.int l2), none, none, none, none, none] [] h (some (.int r8)) h8 := by
  refine xm_E_s r_X11_moved_0 rfl rfl ?_
  refine xm_E_cs [.int l1] [] r_X11_moved_1 rfl rfl rfl (Nat.le_of_ble_eq_true rfl) rfl q0 ?_
  refine xm_E_s (ls1 := [some (.ref l0), some (.int l1), some (.int l2), some (.int r0), none, none, none, none]) r_X11_moved_2 rfl rfl ?_
  refine xm_E_s r_X11_moved_3 rfl rfl ?_
  refine xm_E_cs [.int l1] [] r_X11_moved_4 rfl rfl rfl (Nat.le_of_ble_eq_true rfl) rfl q1 ?_
  refine xm_E_s (ls1 := [some (.ref l0), some (.int l1), some (.int l2), some (.int r0), some (.int r1), none, none, none]) r_X11_moved_5 rfl rfl ?_
  refine xm_E_s r_X11_moved_6 rfl rfl ?_
  refine xm_E_cs [.int l1] [] r_X11_moved_7 rfl rfl rfl (Nat.le_of_ble_eq_true rfl) rfl q2 ?_
  refine xm_E_s (ls1 := [some (.ref l0), some (.int l1), some (.int l2), some (.int r0), some (.int r1), some (.int r2), none, none]) r_X11_moved_8 rfl rfl ?_
  refine xm_E_s r_X11_moved_9 rfl rfl ?_
  refine xm_E_cs [.int l1] [] r_X11_moved_10 rfl rfl rfl (Nat.le_of_ble_eq_true rfl) rfl q3 ?_
  refine xm_E_s (ls1 := [some (.ref l0), some (.int l1), some (.int l2), some (.int r0), some (.int r1), some (.int r2), some (.int r3), none]) r_X11_moved_11 rfl rfl ?_
  refine xm_E_s r_X11_moved_12 rfl rfl ?_
  refine xm_E_cs [.int l1] [] r_X11_moved_13 rfl rfl rfl (Nat.le_of_ble_eq_true rfl) rfl q4 ?_
  refine xm_E_s (ls1 := [some (.ref l0), some (.int l1), some (.int l2), some (.int r0), some (.int r1), some (.int r2), some (.int r3), some (.int r4)]) r_X11_moved_14 rfl rfl ?_
  refine xm_E_s r_X11_moved_15 rfl rfl ?_
  refine xm_E_s r_X11_moved_16 rfl rfl ?_
  refine xm_E_s r_X11_moved_17 rfl rfl ?_
  refine xm_E_f q5 ?_
  refine xm_E_s r_X11_moved_37 rfl rfl ?_
  refine xm_E_s r_X11_moved_38 rfl rfl ?_
  refine xm_E_t q6 ?_
  refine xm_E_s r_X11_moved_39 rfl rfl ?_
  refine xm_E_s r_X11_moved_40 rfl rfl ?_
  refine xm_E_s r_X11_moved_41 rfl rfl ?_
  refine xm_E_cv [.ref l0, .int l1, .int l2] [] r_X11_moved_42 rfl rfl (Nat.le_of_ble_eq_true rfl) (xm_rc q8 (by decide)) rfl q7 ?_
  refine xm_E_s r_X11_moved_43 rfl rfl ?_
  refine xm_E_f q9 ?_
  refine xm_E_s r_X11_moved_44 rfl rfl ?_
  refine xm_E_s r_X11_moved_45 rfl (xm_T_gi rfl q8 rfl (Or.inr rfl)) ?_
  refine xm_E_s r_X11_moved_46 rfl rfl ?_
  refine xm_E_f q10 ?_
  refine xm_E_s r_X11_moved_47 rfl rfl ?_
  refine xm_E_s r_X11_moved_48 rfl rfl ?_
  refine xm_E_s r_X11_moved_49 rfl rfl ?_
  refine xm_E_f q11 ?_
  refine xm_E_s r_X11_moved_50 rfl rfl ?_
  refine xm_E_s r_X11_moved_51 rfl rfl ?_
  refine xm_E_s r_X11_moved_52 rfl rfl ?_
  refine xm_E_f q12 ?_
  refine xm_E_s r_X11_moved_55 rfl rfl ?_
  refine xm_E_s r_X11_moved_56 rfl (xm_T_tab (7 : Int32) 201 rfl q13 (by decide) rfl) ?_
  refine xm_E_s r_X11_moved_201 rfl rfl ?_
  refine xm_E_s r_X11_moved_202 rfl rfl ?_
  refine xm_E_s r_X11_moved_203 rfl rfl ?_
  refine xm_E_s r_X11_moved_204 rfl rfl ?_
  refine xm_E_s r_X11_moved_205 rfl rfl ?_
  refine xm_E_cs [.int r2, .int (0 : Int32), .int (1 : Int32)] [.int r1, .int r0] r_X11_moved_206 rfl rfl rfl (Nat.le_of_ble_eq_true rfl) rfl q14 ?_
  refine xm_E_s r_X11_moved_207 rfl rfl ?_
  refine xm_E_s r_X11_moved_208 rfl rfl ?_
  refine xm_E_cs [.int r6, .int (2 : Int32), .int (3 : Int32)] [.int r1, .int r0] r_X11_moved_209 rfl rfl rfl (Nat.le_of_ble_eq_true rfl) rfl q15 ?_
  refine xm_E_s r_X11_moved_210 rfl rfl ?_
  refine xm_E_s r_X11_moved_211 rfl rfl ?_
  refine xm_E_cs [.int r0, .int r1, .int r7, .int r3, .int (0 : Int32)] [] r_X11_moved_212 rfl rfl rfl (Nat.le_of_ble_eq_true rfl) rfl q16 ?_
  exact xm_E_iret r_X11_moved_213 rfl rfl
theorem w_X11_moved_0_51 {X : xm_X} {P : List xm_M} {d : Nat} {h : xm_H} {l0 : Nat} {l1 : Int32} {l2 : Int32} {h0 : xm_H} {r0 : Int32} {h1 : xm_H} {r1 : Int32} {h2 : xm_H} {r2 : Int32} {h3 : xm_H} {r3 : Int32} {h4 : xm_H} {r4 : Int32} {h5 : xm_H} {r5 : Int32} {h6 : xm_H} {r6 : Int32} {h7 : xm_H} {r7 : Int32} (q0 : xm_V X P d 224 [.int l1] h (some (.int r0)) h0) (q1 : xm_V X P d 225 [.int l1] h0 (some (.int r1)) h1) (q2 : xm_V X P d 226 [.int l1] h1 (some (.int r2)) h2) (q3 : xm_V X P d 227 [.int l1] h2 (some (.int r3)) h3) (q4 : xm_V X P d 228 [.int l1] h3 (some (.int r4)) h4) (q5 : ¬ (l2 = (9 : Int32))) (q6 : r4 = (0 : Int32)) (q7 : xm_V X P d 229 [.ref l0, .int l1, .int l2] h4 (some (.int r5)) h5) (q8 : X.1[l0]? = some (.inr 10)) (q9 : ¬ (r5 = (0 : Int32))) (q10 : ¬ (h5.1 l0 16 = (0 : Int32))) (q11 : ¬ (l2 = (4 : Int32))) (q12 : ¬ (l2 = (5 : Int32))) (q13 : l2.toInt < 0 ∨ 7 < l2.toInt) (q14 : xm_V X P d 231 [.int r2] h5 (some (.int r6)) h6) (q15 : xm_V X P d 221 [.int r1, .int r0, .int r6, .int r3, .int (0 : Int32)] h6 (some (.int r7)) h7) : xm_E X P d co_X11_moved 0 [some (.ref l0), some (.int l1), some (.int l2), none, none, none, none, none] [] h (some (.int r7)) h7 := by
  refine xm_E_s r_X11_moved_0 rfl rfl ?_
  refine xm_E_cs [.int l1] [] r_X11_moved_1 rfl rfl rfl (Nat.le_of_ble_eq_true rfl) rfl q0 ?_
  refine xm_E_s (ls1 := [some (.ref l0), some (.int l1), some (.int l2), some (.int r0), none, none, none, none]) r_X11_moved_2 rfl rfl ?_
  refine xm_E_s r_X11_moved_3 rfl rfl ?_
  refine xm_E_cs [.int l1] [] r_X11_moved_4 rfl rfl rfl (Nat.le_of_ble_eq_true rfl) rfl q1 ?_
  refine xm_E_s (ls1 := [some (.ref l0), some (.int l1), some (.int l2), some (.int r0), some (.int r1), none, none, none]) r_X11_moved_5 rfl rfl ?_
  refine xm_E_s r_X11_moved_6 rfl rfl ?_
  refine xm_E_cs [.int l1] [] r_X11_moved_7 rfl rfl rfl (Nat.le_of_ble_eq_true rfl) rfl q2 ?_
  refine xm_E_s (ls1 := [some (.ref l0), some (.int l1), some (.int l2), some (.int r0), some (.int r1), some (.int r2), none, none]) r_X11_moved_8 rfl rfl ?_
  refine xm_E_s r_X11_moved_9 rfl rfl ?_
  refine xm_E_cs [.int l1] [] r_X11_moved_10 rfl rfl rfl (Nat.le_of_ble_eq_true rfl) rfl q3 ?_
  refine xm_E_s (ls1 := [some (.ref l0), some (.int l1), some (.int l2), some (.int r0), some (.int r1), some (.int r2), some (.int r3), none]) r_X11_moved_11 rfl rfl ?_
  refine xm_E_s r_X11_moved_12 rfl rfl ?_
  refine xm_E_cs [.int l1] [] r_X11_moved_13 rfl rfl rfl (Nat.le_of_ble_eq_true rfl) rfl q4 ?_
  refine xm_E_s (ls1 := [some (.ref l0), some (.int l1), some (.int l2), some (.int r0), some (.int r1), some (.int r2), some (.int r3), some (.int r4)]) r_X11_moved_14 rfl rfl ?_
  refine xm_E_s r_X11_moved_15 rfl rfl ?_
  refine xm_E_s r_X11_moved_16 rfl rfl ?_
  refine xm_E_s r_X11_moved_17 rfl rfl ?_
  refine xm_E_f q5 ?_
  refine xm_E_s r_X11_moved_37 rfl rfl ?_
  refine xm_E_s r_X11_moved_38 rfl rfl ?_
  refine xm_E_t q6 ?_
  refine xm_E_s r_X11_moved_39 rfl rfl ?_
  refine xm_E_s r_X11_moved_40 rfl rfl ?_
  refine xm_E_s r_X11_moved_41 rfl rfl ?_
  refine xm_E_cv [.ref l0, .int l1, .int l2] [] r_X11_moved_42 rfl rfl (Nat.le_of_ble_eq_true rfl) (xm_rc q8 (by decide)) rfl q7 ?_
  refine xm_E_s r_X11_moved_43 rfl rfl ?_
  refine xm_E_f q9 ?_
  refine xm_E_s r_X11_moved_44 rfl rfl ?_
  refine xm_E_s r_X11_moved_45 rfl (xm_T_gi rfl q8 rfl (Or.inr rfl)) ?_
  refine xm_E_s r_X11_moved_46 rfl rfl ?_
  refine xm_E_f q10 ?_
  refine xm_E_s r_X11_moved_47 rfl rfl ?_
  refine xm_E_s r_X11_moved_48 rfl rfl ?_
  refine xm_E_s r_X11_moved_49 rfl rfl ?_
  refine xm_E_f q11 ?_
  refine xm_E_s r_X11_moved_50 rfl rfl ?_
  refine xm_E_s r_X11_moved_51 rfl rfl ?_
  refine xm_E_s r_X11_moved_52 rfl rfl ?_
  refine xm_E_f q12 ?_
  refine xm_E_s r_X11_moved_55 rfl rfl ?_
  refine xm_E_s r_X11_moved_56 rfl (xm_T_tabd rfl q13) ?_
  refine xm_E_s r_X11_moved_214 rfl rfl ?_
  refine xm_E_s r_X11_moved_215 rfl rfl ?_
  refine xm_E_s r_X11_moved_216 rfl rfl ?_
  refine xm_E_cs [.int r2] [.int r0, .int r1] r_X11_moved_217 rfl rfl rfl (Nat.le_of_ble_eq_true rfl) rfl q14 ?_
  refine xm_E_s r_X11_moved_218 rfl rfl ?_
  refine xm_E_s r_X11_moved_219 rfl rfl ?_
  refine xm_E_cs [.int r1, .int r0, .int r6, .int r3, .int (0 : Int32)] [] r_X11_moved_220 rfl rfl rfl (Nat.le_of_ble_eq_true rfl) rfl q15 ?_
  exact xm_E_iret r_X11_moved_221 rfl rfl
theorem w_X11_moved_0_52 {X : xm_X} {P : List xm_M} {d : Nat} {h : xm_H} {l0 : Nat} {l1 : Int32} {l2 : Int32} {h0 : xm_H} {r0 : Int32} {h1 : xm_H} {r1 : Int32} {h2 : xm_H} {r2 : Int32} {h3 : xm_H} {r3 : Int32} {h4 : xm_H} {r4 : Int32} (q0 : xm_V X P d 224 [.int l1] h (some (.int r0)) h0) (q1 : xm_V X P d 225 [.int l1] h0 (some (.int r1)) h1) (q2 : xm_V X P d 226 [.int l1] h1 (some (.int r2)) h2) (q3 : xm_V X P d 227 [.int l1] h2 (some (.int r3)) h3) (q4 : xm_V X P d 228 [.int l1] h3 (some (.int r4)) h4) (q5 : ¬ (l2 = (9 : Int32))) (q6 : ¬ (r4 = (0 : Int32))) : xm_E X P d co_X11_moved 0 [some (.ref l0), some (.int l1), some (.int l2), none, none, none, none, none] [] h (some (.int (-1 : Int32))) h4 := by
  refine xm_E_s r_X11_moved_0 rfl rfl ?_
  refine xm_E_cs [.int l1] [] r_X11_moved_1 rfl rfl rfl (Nat.le_of_ble_eq_true rfl) rfl q0 ?_
  refine xm_E_s (ls1 := [some (.ref l0), some (.int l1), some (.int l2), some (.int r0), none, none, none, none]) r_X11_moved_2 rfl rfl ?_
  refine xm_E_s r_X11_moved_3 rfl rfl ?_
  refine xm_E_cs [.int l1] [] r_X11_moved_4 rfl rfl rfl (Nat.le_of_ble_eq_true rfl) rfl q1 ?_
  refine xm_E_s (ls1 := [some (.ref l0), some (.int l1), some (.int l2), some (.int r0), some (.int r1), none, none, none]) r_X11_moved_5 rfl rfl ?_
  refine xm_E_s r_X11_moved_6 rfl rfl ?_
  refine xm_E_cs [.int l1] [] r_X11_moved_7 rfl rfl rfl (Nat.le_of_ble_eq_true rfl) rfl q2 ?_
  refine xm_E_s (ls1 := [some (.ref l0), some (.int l1), some (.int l2), some (.int r0), some (.int r1), some (.int r2), none, none]) r_X11_moved_8 rfl rfl ?_
  refine xm_E_s r_X11_moved_9 rfl rfl ?_
  refine xm_E_cs [.int l1] [] r_X11_moved_10 rfl rfl rfl (Nat.le_of_ble_eq_true rfl) rfl q3 ?_
  refine xm_E_s (ls1 := [some (.ref l0), some (.int l1), some (.int l2), some (.int r0), some (.int r1), some (.int r2), some (.int r3), none]) r_X11_moved_11 rfl rfl ?_
  refine xm_E_s r_X11_moved_12 rfl rfl ?_
  refine xm_E_cs [.int l1] [] r_X11_moved_13 rfl rfl rfl (Nat.le_of_ble_eq_true rfl) rfl q4 ?_
  refine xm_E_s (ls1 := [some (.ref l0), some (.int l1), some (.int l2), some (.int r0), some (.int r1), some (.int r2), some (.int r3), some (.int r4)]) r_X11_moved_14 rfl rfl ?_
  refine xm_E_s r_X11_moved_15 rfl rfl ?_
  refine xm_E_s r_X11_moved_16 rfl rfl ?_
  refine xm_E_s r_X11_moved_17 rfl rfl ?_
  refine xm_E_f q5 ?_
  refine xm_E_s r_X11_moved_37 rfl rfl ?_
  refine xm_E_s r_X11_moved_38 rfl rfl ?_
  refine xm_E_f q6 ?_
  refine xm_E_s r_X11_moved_53 rfl rfl ?_
  exact xm_E_iret r_X11_moved_54 rfl rfl
def F_X11_moved (h : xm_H) (t : Nat) (l1 : Int32) (l2 : Int32) : Int32 := if l2 = (9 : Int32) then (if (F_X11_twistOf l1) = (0 : Int32) then (-1 : Int32) else (if (F_X11_twistOf l1) ≤ (0 : Int32) then (F_X11_state (F_X11_longOf l1) (F_X11_wideOf l1) (F_X11_hemOf l1) (F_X11_faceOf l1) ((F_X11_twistOf l1) + (1 : Int32))) else (F_X11_state (F_X11_longOf l1) (F_X11_wideOf l1) (F_X11_hemOf l1) (F_X11_faceOf l1) ((F_X11_twistOf l1) - (1 : Int32))))) else (if (F_X11_twistOf l1) = (0 : Int32) then (if (F_X11_fitsIn h t l1 l2) = (0 : Int32) then (-1 : Int32) else (if h.1 82 16 = (0 : Int32) then (if l2 = (0 : Int32) then (if (F_X11_wideOf l1) - (F_X11_wideOf l1) / (2 : Int32) * (2 : Int32) = (0 : Int32) then (if (F_X11_hemOf l1) = (0 : Int32) then (F_X11_state (F_X11_longOf l1) ((F_X11_wideOf l1) / (2 : Int32)) (1 : Int32) ((1 : Int32) - (F_X11_faceOf l1)) (0 : Int32)) else (F_X11_state (F_X11_longOf l1) ((F_X11_wideOf l1) / (2 : Int32)) (F_X11_hemOf l1) ((1 : Int32) - (F_X11_faceOf l1)) (0 : Int32))) else (-1 : Int32)) else (if l2 = (1 : Int32) then (if (F_X11_wideOf l1) - (F_X11_wideOf l1) / (2 : Int32) * (2 : Int32) = (0 : Int32) then (if (F_X11_hemOf l1) = (1 : Int32) then (F_X11_state (F_X11_longOf l1) ((F_X11_wideOf l1) / (2 : Int32)) (0 : Int32) (F_X11_faceOf l1) (0 : Int32)) else (F_X11_state (F_X11_longOf l1) ((F_X11_wideOf l1) / (2 : Int32)) (F_X11_hemOf l1) (F_X11_faceOf l1) (0 : Int32))) else (-1 : Int32)) else (if l2 = (2 : Int32) then (if (F_X11_wideOf l1) - (F_X11_wideOf l1) / (3 : Int32) * (3 : Int32) = (0 : Int32) then (if (F_X11_hemOf l1) = (0 : Int32) then (F_X11_state (F_X11_longOf l1) ((F_X11_wideOf l1) / (3 : Int32)) (4 : Int32) ((1 : Int32) - (F_X11_faceOf l1)) (0 : Int32)) else (if (F_X11_hemOf l1) = (1 : Int32) then (F_X11_state (F_X11_longOf l1) ((F_X11_wideOf l1) / (3 : Int32)) (4 : Int32) ((1 : Int32) - (F_X11_faceOf l1)) (0 : Int32)) else (F_X11_state (F_X11_longOf l1) ((F_X11_wideOf l1) / (3 : Int32)) (F_X11_hemOf l1) ((1 : Int32) - (F_X11_faceOf l1)) (0 : Int32)))) else (-1 : Int32)) else (if l2 = (3 : Int32) then (if (F_X11_longOf l1) - (F_X11_longOf l1) / (2 : Int32) * (2 : Int32) = (0 : Int32) then (if (F_X11_hemOf l1) = (2 : Int32) then (F_X11_state ((F_X11_longOf l1) / (2 : Int32)) (F_X11_wideOf l1) (3 : Int32) ((1 : Int32) - (F_X11_faceOf l1)) (0 : Int32)) else (F_X11_state ((F_X11_longOf l1) / (2 : Int32)) (F_X11_wideOf l1) (F_X11_hemOf l1) ((1 : Int32) - (F_X11_faceOf l1)) (0 : Int32))) else (-1 : Int32)) else (if l2 = (4 : Int32) then (if (F_X11_longOf l1) - (F_X11_longOf l1) / (2 : Int32) * (2 : Int32) = (0 : Int32) then (if (F_X11_hemOf l1) = (3 : Int32) then (F_X11_state ((F_X11_longOf l1) / (2 : Int32)) (F_X11_wideOf l1) (2 : Int32) (F_X11_faceOf l1) (0 : Int32)) else (F_X11_state ((F_X11_longOf l1) / (2 : Int32)) (F_X11_wideOf l1) (F_X11_hemOf l1) (F_X11_faceOf l1) (0 : Int32))) else (-1 : Int32)) else (if l2 = (5 : Int32) then (if (F_X11_longOf l1) - (F_X11_longOf l1) / (2 : Int32) * (2 : Int32) = (0 : Int32) then (if (F_X11_hemOf l1) = (2 : Int32) then (F_X11_state ((F_X11_longOf l1) / (2 : Int32)) (F_X11_wideOf l1) (4 : Int32) ((1 : Int32) - (F_X11_faceOf l1)) (0 : Int32)) else (if (F_X11_hemOf l1) = (3 : Int32) then (F_X11_state ((F_X11_longOf l1) / (2 : Int32)) (F_X11_wideOf l1) (4 : Int32) ((1 : Int32) - (F_X11_faceOf l1)) (0 : Int32)) else (F_X11_state ((F_X11_longOf l1) / (2 : Int32)) (F_X11_wideOf l1) (F_X11_hemOf l1) ((1 : Int32) - (F_X11_faceOf l1)) (0 : Int32)))) else (-1 : Int32)) else (if l2 = (6 : Int32) then (F_X11_state (F_X11_longOf l1) (F_X11_wideOf l1) (F_X11_trade (F_X11_hemOf l1) (0 : Int32) (1 : Int32)) ((1 : Int32) - (F_X11_faceOf l1)) (0 : Int32)) else (if l2 = (7 : Int32) then (F_X11_state (F_X11_longOf l1) (F_X11_wideOf l1) (F_X11_trade (F_X11_trade (F_X11_hemOf l1) (0 : Int32) (1 : Int32)) (2 : Int32) (3 : Int32)) (F_X11_faceOf l1) (0 : Int32)) else (F_X11_state (F_X11_wideOf l1) (F_X11_longOf l1) (F_X11_round (F_X11_hemOf l1)) (F_X11_faceOf l1) (0 : Int32)))))))))) else (if l2 = (4 : Int32) then (-1 : Int32) else (if l2 = (5 : Int32) then (-1 : Int32) else (if l2 = (0 : Int32) then (if (F_X11_wideOf l1) - (F_X11_wideOf l1) / (2 : Int32) * (2 : Int32) = (0 : Int32) then (if (F_X11_hemOf l1) = (0 : Int32) then (F_X11_state (F_X11_longOf l1) ((F_X11_wideOf l1) / (2 : Int32)) (1 : Int32) ((1 : Int32) - (F_X11_faceOf l1)) (0 : Int32)) else (F_X11_state (F_X11_longOf l1) ((F_X11_wideOf l1) / (2 : Int32)) (F_X11_hemOf l1) ((1 : Int32) - (F_X11_faceOf l1)) (0 : Int32))) else (-1 : Int32)) else (if l2 = (1 : Int32) then (if (F_X11_wideOf l1) - (F_X11_wideOf l1) / (2 : Int32) * (2 : Int32) = (0 : Int32) then (if (F_X11_hemOf l1) = (1 : Int32) then (F_X11_state (F_X11_longOf l1) ((F_X11_wideOf l1) / (2 : Int32)) (0 : Int32) (F_X11_faceOf l1) (0 : Int32)) else (F_X11_state (F_X11_longOf l1) ((F_X11_wideOf l1) / (2 : Int32)) (F_X11_hemOf l1) (F_X11_faceOf l1) (0 : Int32))) else (-1 : Int32)) else (if l2 = (2 : Int32) then (if (F_X11_wideOf l1) - (F_X11_wideOf l1) / (3 : Int32) * (3 : Int32) = (0 : Int32) then (if (F_X11_hemOf l1) = (0 : Int32) then (F_X11_state (F_X11_longOf l1) ((F_X11_wideOf l1) / (3 : Int32)) (4 : Int32) ((1 : Int32) - (F_X11_faceOf l1)) (0 : Int32)) else (if (F_X11_hemOf l1) = (1 : Int32) then (F_X11_state (F_X11_longOf l1) ((F_X11_wideOf l1) / (3 : Int32)) (4 : Int32) ((1 : Int32) - (F_X11_faceOf l1)) (0 : Int32)) else (F_X11_state (F_X11_longOf l1) ((F_X11_wideOf l1) / (3 : Int32)) (F_X11_hemOf l1) ((1 : Int32) - (F_X11_faceOf l1)) (0 : Int32)))) else (-1 : Int32)) else (if l2 = (3 : Int32) then (if (F_X11_longOf l1) - (F_X11_longOf l1) / (2 : Int32) * (2 : Int32) = (0 : Int32) then (if (F_X11_hemOf l1) = (2 : Int32) then (F_X11_state ((F_X11_longOf l1) / (2 : Int32)) (F_X11_wideOf l1) (3 : Int32) ((1 : Int32) - (F_X11_faceOf l1)) (0 : Int32)) else (F_X11_state ((F_X11_longOf l1) / (2 : Int32)) (F_X11_wideOf l1) (F_X11_hemOf l1) ((1 : Int32) - (F_X11_faceOf l1)) (0 : Int32))) else (-1 : Int32)) else (if l2 = (6 : Int32) then (F_X11_state (F_X11_longOf l1) (F_X11_wideOf l1) (F_X11_trade (F_X11_hemOf l1) (0 : Int32) (1 : Int32)) ((1 : Int32) - (F_X11_faceOf l1)) (0 : Int32)) else (if l2 = (7 : Int32) then (F_X11_state (F_X11_longOf l1) (F_X11_wideOf l1) (F_X11_trade (F_X11_trade (F_X11_hemOf l1) (0 : Int32) (1 : Int32)) (2 : Int32) (3 : Int32)) (F_X11_faceOf l1) (0 : Int32)) else (F_X11_state (F_X11_wideOf l1) (F_X11_longOf l1) (F_X11_round (F_X11_hemOf l1)) (F_X11_faceOf l1) (0 : Int32)))))))))))) else (-1 : Int32))
theorem f_X11_moved {L : Nat} {xs : Nat → Int32} {d : Nat} {h : xm_H} {t : Nat} (hR : h.2.2 = xm_R0 t) (ht : t = 5 ∨ t = 13) {l1 : Int32} {l2 : Int32} : xm_V (xm_X0 L xs) xm_P (d + 3) 223 [.ref 82, .int l1, .int l2] h (some (.int (F_X11_moved h t l1 l2))) h := by
  unfold F_X11_moved
  by_cases c0 : l2 = (9 : Int32)
  · rw [if_pos c0]
    by_cases c1 : (F_X11_twistOf l1) = (0 : Int32)
    · rw [if_pos c1]
      exact v_X11_moved (w_X11_moved_0_0 (f_X11_longOf (d := d + 1)) (f_X11_wideOf (d := d + 1)) (f_X11_hemOf (d := d + 1)) (f_X11_faceOf (d := d + 1)) (f_X11_twistOf (d := d + 1)) c0 c1)
    · rw [if_neg c1]
      by_cases c2 : (F_X11_twistOf l1) ≤ (0 : Int32)
      · rw [if_pos c2]
        exact v_X11_moved (w_X11_moved_0_1 (f_X11_longOf (d := d + 1)) (f_X11_wideOf (d := d + 1)) (f_X11_hemOf (d := d + 1)) (f_X11_faceOf (d := d + 1)) (f_X11_twistOf (d := d + 1)) c0 c1 c2 (f_X11_state (d := d + 1)))
      · rw [if_neg c2]
        exact v_X11_moved (w_X11_moved_0_2 (f_X11_longOf (d := d + 1)) (f_X11_wideOf (d := d + 1)) (f_X11_hemOf (d := d + 1)) (f_X11_faceOf (d := d + 1)) (f_X11_twistOf (d := d + 1)) c0 c1 c2 (f_X11_state (d := d + 1)))
  · rw [if_neg c0]
    by_cases c3 : (F_X11_twistOf l1) = (0 : Int32)
    · rw [if_pos c3]
      by_cases c4 : (F_X11_fitsIn h t l1 l2) = (0 : Int32)
      · rw [if_pos c4]
        exact v_X11_moved (w_X11_moved_0_3 (f_X11_longOf (d := d + 1)) (f_X11_wideOf (d := d + 1)) (f_X11_hemOf (d := d + 1)) (f_X11_faceOf (d := d + 1)) (f_X11_twistOf (d := d + 1)) c0 c3 (f_X11_fitsIn (d := d + 0) hR ht) xs_82 c4)
      · rw [if_neg c4]
        by_cases c5 : h.1 82 16 = (0 : Int32)
        · rw [if_pos c5]
          by_cases c6 : l2 = (0 : Int32)
          · rw [if_pos c6]
            by_cases c7 : (F_X11_wideOf l1) - (F_X11_wideOf l1) / (2 : Int32) * (2 : Int32) = (0 : Int32)
            · rw [if_pos c7]
              by_cases c8 : (F_X11_hemOf l1) = (0 : Int32)
              · rw [if_pos c8]
                exact v_X11_moved (w_X11_moved_0_4 (f_X11_longOf (d := d + 1)) (f_X11_wideOf (d := d + 1)) (f_X11_hemOf (d := d + 1)) (f_X11_faceOf (d := d + 1)) (f_X11_twistOf (d := d + 1)) c0 c3 (f_X11_fitsIn (d := d + 0) hR ht) xs_82 c4 c5 c6 c7 c8 (f_X11_state (d := d + 1)))
              · rw [if_neg c8]
                exact v_X11_moved (w_X11_moved_0_5 (f_X11_longOf (d := d + 1)) (f_X11_wideOf (d := d + 1)) (f_X11_hemOf (d := d + 1)) (f_X11_faceOf (d := d + 1)) (f_X11_twistOf (d := d + 1)) c0 c3 (f_X11_fitsIn (d := d + 0) hR ht) xs_82 c4 c5 c6 c7 c8 (f_X11_state (d := d + 1)))
            · rw [if_neg c7]
              exact v_X11_moved (w_X11_moved_0_6 (f_X11_longOf (d := d + 1)) (f_X11_wideOf (d := d + 1)) (f_X11_hemOf (d := d + 1)) (f_X11_faceOf (d := d + 1)) (f_X11_twistOf (d := d + 1)) c0 c3 (f_X11_fitsIn (d := d + 0) hR ht) xs_82 c4 c5 c6 c7)
          · rw [if_neg c6]
            by_cases c9 : l2 = (1 : Int32)
            · rw [if_pos c9]
              by_cases c10 : (F_X11_wideOf l1) - (F_X11_wideOf l1) / (2 : Int32) * (2 : Int32) = (0 : Int32)
              · rw [if_pos c10]
                by_cases c11 : (F_X11_hemOf l1) = (1 : Int32)
                · rw [if_pos c11]
                  exact v_X11_moved (w_X11_moved_0_7 (f_X11_longOf (d := d + 1)) (f_X11_wideOf (d := d + 1)) (f_X11_hemOf (d := d + 1)) (f_X11_faceOf (d := d + 1)) (f_X11_twistOf (d := d + 1)) c0 c3 (f_X11_fitsIn (d := d + 0) hR ht) xs_82 c4 c5 c9 c10 c11 (f_X11_state (d := d + 1)))
                · rw [if_neg c11]
                  exact v_X11_moved (w_X11_moved_0_8 (f_X11_longOf (d := d + 1)) (f_X11_wideOf (d := d + 1)) (f_X11_hemOf (d := d + 1)) (f_X11_faceOf (d := d + 1)) (f_X11_twistOf (d := d + 1)) c0 c3 (f_X11_fitsIn (d := d + 0) hR ht) xs_82 c4 c5 c9 c10 c11 (f_X11_state (d := d + 1)))
              · rw [if_neg c10]
                exact v_X11_moved (w_X11_moved_0_9 (f_X11_longOf (d := d + 1)) (f_X11_wideOf (d := d + 1)) (f_X11_hemOf (d := d + 1)) (f_X11_faceOf (d := d + 1)) (f_X11_twistOf (d := d + 1)) c0 c3 (f_X11_fitsIn (d := d + 0) hR ht) xs_82 c4 c5 c9 c10)
            · rw [if_neg c9]
              by_cases c12 : l2 = (2 : Int32)
              · rw [if_pos c12]
                by_cases c13 : (F_X11_wideOf l1) - (F_X11_wideOf l1) / (3 : Int32) * (3 : Int32) = (0 : Int32)
                · rw [if_pos c13]
                  by_cases c14 : (F_X11_hemOf l1) = (0 : Int32)
                  · rw [if_pos c14]
                    exact v_X11_moved (w_X11_moved_0_10 (f_X11_longOf (d := d + 1)) (f_X11_wideOf (d := d + 1)) (f_X11_hemOf (d := d + 1)) (f_X11_faceOf (d := d + 1)) (f_X11_twistOf (d := d + 1)) c0 c3 (f_X11_fitsIn (d := d + 0) hR ht) xs_82 c4 c5 c12 c13 c14 (f_X11_state (d := d + 1)))
                  · rw [if_neg c14]
                    by_cases c15 : (F_X11_hemOf l1) = (1 : Int32)
                    · rw [if_pos c15]
                      exact v_X11_moved (w_X11_moved_0_11 (f_X11_longOf (d := d + 1)) (f_X11_wideOf (d := d + 1)) (f_X11_hemOf (d := d + 1)) (f_X11_faceOf (d := d + 1)) (f_X11_twistOf (d := d + 1)) c0 c3 (f_X11_fitsIn (d := d + 0) hR ht) xs_82 c4 c5 c12 c13 c14 c15 (f_X11_state (d := d + 1)))
                    · rw [if_neg c15]
                      exact v_X11_moved (w_X11_moved_0_12 (f_X11_longOf (d := d + 1)) (f_X11_wideOf (d := d + 1)) (f_X11_hemOf (d := d + 1)) (f_X11_faceOf (d := d + 1)) (f_X11_twistOf (d := d + 1)) c0 c3 (f_X11_fitsIn (d := d + 0) hR ht) xs_82 c4 c5 c12 c13 c14 c15 (f_X11_state (d := d + 1)))
                · rw [if_neg c13]
                  exact v_X11_moved (w_X11_moved_0_13 (f_X11_longOf (d := d + 1)) (f_X11_wideOf (d := d + 1)) (f_X11_hemOf (d := d + 1)) (f_X11_faceOf (d := d + 1)) (f_X11_twistOf (d := d + 1)) c0 c3 (f_X11_fitsIn (d := d + 0) hR ht) xs_82 c4 c5 c12 c13)
              · rw [if_neg c12]
                by_cases c16 : l2 = (3 : Int32)
                · rw [if_pos c16]
                  by_cases c17 : (F_X11_longOf l1) - (F_X11_longOf l1) / (2 : Int32) * (2 : Int32) = (0 : Int32)
                  · rw [if_pos c17]
                    by_cases c18 : (F_X11_hemOf l1) = (2 : Int32)
                    · rw [if_pos c18]
                      exact v_X11_moved (w_X11_moved_0_14 (f_X11_longOf (d := d + 1)) (f_X11_wideOf (d := d + 1)) (f_X11_hemOf (d := d + 1)) (f_X11_faceOf (d := d + 1)) (f_X11_twistOf (d := d + 1)) c0 c3 (f_X11_fitsIn (d := d + 0) hR ht) xs_82 c4 c5 c16 c17 c18 (f_X11_state (d := d + 1)))
                    · rw [if_neg c18]
                      exact v_X11_moved (w_X11_moved_0_15 (f_X11_longOf (d := d + 1)) (f_X11_wideOf (d := d + 1)) (f_X11_hemOf (d := d + 1)) (f_X11_faceOf (d := d + 1)) (f_X11_twistOf (d := d + 1)) c0 c3 (f_X11_fitsIn (d := d + 0) hR ht) xs_82 c4 c5 c16 c17 c18 (f_X11_state (d := d + 1)))
                  · rw [if_neg c17]
                    exact v_X11_moved (w_X11_moved_0_16 (f_X11_longOf (d := d + 1)) (f_X11_wideOf (d := d + 1)) (f_X11_hemOf (d := d + 1)) (f_X11_faceOf (d := d + 1)) (f_X11_twistOf (d := d + 1)) c0 c3 (f_X11_fitsIn (d := d + 0) hR ht) xs_82 c4 c5 c16 c17)
                · rw [if_neg c16]
                  by_cases c19 : l2 = (4 : Int32)
                  · rw [if_pos c19]
                    by_cases c20 : (F_X11_longOf l1) - (F_X11_longOf l1) / (2 : Int32) * (2 : Int32) = (0 : Int32)
                    · rw [if_pos c20]
                      by_cases c21 : (F_X11_hemOf l1) = (3 : Int32)
                      · rw [if_pos c21]
                        exact v_X11_moved (w_X11_moved_0_17 (f_X11_longOf (d := d + 1)) (f_X11_wideOf (d := d + 1)) (f_X11_hemOf (d := d + 1)) (f_X11_faceOf (d := d + 1)) (f_X11_twistOf (d := d + 1)) c0 c3 (f_X11_fitsIn (d := d + 0) hR ht) xs_82 c4 c5 c19 c20 c21 (f_X11_state (d := d + 1)))
                      · rw [if_neg c21]
                        exact v_X11_moved (w_X11_moved_0_18 (f_X11_longOf (d := d + 1)) (f_X11_wideOf (d := d + 1)) (f_X11_hemOf (d := d + 1)) (f_X11_faceOf (d := d + 1)) (f_X11_twistOf (d := d + 1)) c0 c3 (f_X11_fitsIn (d := d + 0) hR ht) xs_82 c4 c5 c19 c20 c21 (f_X11_state (d := d + 1)))
                    · rw [if_neg c20]
                      exact v_X11_moved (w_X11_moved_0_19 (f_X11_longOf (d := d + 1)) (f_X11_wideOf (d := d + 1)) (f_X11_hemOf (d := d + 1)) (f_X11_faceOf (d := d + 1)) (f_X11_twistOf (d := d + 1)) c0 c3 (f_X11_fitsIn (d := d + 0) hR ht) xs_82 c4 c5 c19 c20)
                  · rw [if_neg c19]
                    by_cases c22 : l2 = (5 : Int32)
                    · rw [if_pos c22]
                      by_cases c23 : (F_X11_longOf l1) - (F_X11_longOf l1) / (2 : Int32) * (2 : Int32) = (0 : Int32)
                      · rw [if_pos c23]
                        by_cases c24 : (F_X11_hemOf l1) = (2 : Int32)
                        · rw [if_pos c24]
                          exact v_X11_moved (w_X11_moved_0_20 (f_X11_longOf (d := d + 1)) (f_X11_wideOf (d := d + 1)) (f_X11_hemOf (d := d + 1)) (f_X11_faceOf (d := d + 1)) (f_X11_twistOf (d := d + 1)) c0 c3 (f_X11_fitsIn (d := d + 0) hR ht) xs_82 c4 c5 c22 c23 c24 (f_X11_state (d := d + 1)))
                        · rw [if_neg c24]
                          by_cases c25 : (F_X11_hemOf l1) = (3 : Int32)
                          · rw [if_pos c25]
                            exact v_X11_moved (w_X11_moved_0_21 (f_X11_longOf (d := d + 1)) (f_X11_wideOf (d := d + 1)) (f_X11_hemOf (d := d + 1)) (f_X11_faceOf (d := d + 1)) (f_X11_twistOf (d := d + 1)) c0 c3 (f_X11_fitsIn (d := d + 0) hR ht) xs_82 c4 c5 c22 c23 c24 c25 (f_X11_state (d := d + 1)))
                          · rw [if_neg c25]
                            exact v_X11_moved (w_X11_moved_0_22 (f_X11_longOf (d := d + 1)) (f_X11_wideOf (d := d + 1)) (f_X11_hemOf (d := d + 1)) (f_X11_faceOf (d := d + 1)) (f_X11_twistOf (d := d + 1)) c0 c3 (f_X11_fitsIn (d := d + 0) hR ht) xs_82 c4 c5 c22 c23 c24 c25 (f_X11_state (d := d + 1)))
                      · rw [if_neg c23]
                        exact v_X11_moved (w_X11_moved_0_23 (f_X11_longOf (d := d + 1)) (f_X11_wideOf (d := d + 1)) (f_X11_hemOf (d := d + 1)) (f_X11_faceOf (d := d + 1)) (f_X11_twistOf (d := d + 1)) c0 c3 (f_X11_fitsIn (d := d + 0) hR ht) xs_82 c4 c5 c22 c23)
                    · rw [if_neg c22]
                      by_cases c26 : l2 = (6 : Int32)
                      · rw [if_pos c26]
                        exact v_X11_moved (w_X11_moved_0_24 (f_X11_longOf (d := d + 1)) (f_X11_wideOf (d := d + 1)) (f_X11_hemOf (d := d + 1)) (f_X11_faceOf (d := d + 1)) (f_X11_twistOf (d := d + 1)) c0 c3 (f_X11_fitsIn (d := d + 0) hR ht) xs_82 c4 c5 c26 (f_X11_trade (d := d + 1)) (f_X11_state (d := d + 1)))
                      · rw [if_neg c26]
                        by_cases c27 : l2 = (7 : Int32)
                        · rw [if_pos c27]
                          exact v_X11_moved (w_X11_moved_0_25 (f_X11_longOf (d := d + 1)) (f_X11_wideOf (d := d + 1)) (f_X11_hemOf (d := d + 1)) (f_X11_faceOf (d := d + 1)) (f_X11_twistOf (d := d + 1)) c0 c3 (f_X11_fitsIn (d := d + 0) hR ht) xs_82 c4 c5 c27 (f_X11_trade (d := d + 1)) (f_X11_trade (d := d + 1)) (f_X11_state (d := d + 1)))
                        · rw [if_neg c27]
                          exact v_X11_moved (w_X11_moved_0_26 (f_X11_longOf (d := d + 1)) (f_X11_wideOf (d := d + 1)) (f_X11_hemOf (d := d + 1)) (f_X11_faceOf (d := d + 1)) (f_X11_twistOf (d := d + 1)) c0 c3 (f_X11_fitsIn (d := d + 0) hR ht) xs_82 c4 c5 (sw_out (lo := 0) (hi := 7) (by decide) (fun k hk1 hk2 => by
                              have hk : k = 0 ∨ k = 1 ∨ k = 2 ∨ k = 3 ∨ k = 4 ∨ k = 5 ∨ k = 6 ∨ k = 7 := by omega
                              rcases hk with rfl | rfl | rfl | rfl | rfl | rfl | rfl | rfl <;> first | exact c0 | exact c6 | exact c9 | exact c12 | exact c16 | exact c19 | exact c22 | exact c26 | exact c27)) (f_X11_round (d := d + 1)) (f_X11_state (d := d + 1)))
        · rw [if_neg c5]
          by_cases c28 : l2 = (4 : Int32)
          · rw [if_pos c28]
            exact v_X11_moved (w_X11_moved_0_27 (f_X11_longOf (d := d + 1)) (f_X11_wideOf (d := d + 1)) (f_X11_hemOf (d := d + 1)) (f_X11_faceOf (d := d + 1)) (f_X11_twistOf (d := d + 1)) c0 c3 (f_X11_fitsIn (d := d + 0) hR ht) xs_82 c4 c5 c28)
          · rw [if_neg c28]
            by_cases c29 : l2 = (5 : Int32)
            · rw [if_pos c29]
              exact v_X11_moved (w_X11_moved_0_28 (f_X11_longOf (d := d + 1)) (f_X11_wideOf (d := d + 1)) (f_X11_hemOf (d := d + 1)) (f_X11_faceOf (d := d + 1)) (f_X11_twistOf (d := d + 1)) c0 c3 (f_X11_fitsIn (d := d + 0) hR ht) xs_82 c4 c5 c28 c29)
            · rw [if_neg c29]
              by_cases c30 : l2 = (0 : Int32)
              · rw [if_pos c30]
                by_cases c31 : (F_X11_wideOf l1) - (F_X11_wideOf l1) / (2 : Int32) * (2 : Int32) = (0 : Int32)
                · rw [if_pos c31]
                  by_cases c32 : (F_X11_hemOf l1) = (0 : Int32)
                  · rw [if_pos c32]
                    exact v_X11_moved (w_X11_moved_0_29 (f_X11_longOf (d := d + 1)) (f_X11_wideOf (d := d + 1)) (f_X11_hemOf (d := d + 1)) (f_X11_faceOf (d := d + 1)) (f_X11_twistOf (d := d + 1)) c0 c3 (f_X11_fitsIn (d := d + 0) hR ht) xs_82 c4 c5 c28 c29 c30 c31 c32 (f_X11_state (d := d + 1)))
                  · rw [if_neg c32]
                    exact v_X11_moved (w_X11_moved_0_30 (f_X11_longOf (d := d + 1)) (f_X11_wideOf (d := d + 1)) (f_X11_hemOf (d := d + 1)) (f_X11_faceOf (d := d + 1)) (f_X11_twistOf (d := d + 1)) c0 c3 (f_X11_fitsIn (d := d + 0) hR ht) xs_82 c4 c5 c28 c29 c30 c31 c32 (f_X11_state (d := d + 1)))
                · rw [if_neg c31]
                  exact v_X11_moved (w_X11_moved_0_31 (f_X11_longOf (d := d + 1)) (f_X11_wideOf (d := d + 1)) (f_X11_hemOf (d := d + 1)) (f_X11_faceOf (d := d + 1)) (f_X11_twistOf (d := d + 1)) c0 c3 (f_X11_fitsIn (d := d + 0) hR ht) xs_82 c4 c5 c28 c29 c30 c31)
              · rw [if_neg c30]
                by_cases c33 : l2 = (1 : Int32)
                · rw [if_pos c33]
                  by_cases c34 : (F_X11_wideOf l1) - (F_X11_wideOf l1) / (2 : Int32) * (2 : Int32) = (0 : Int32)
                  · rw [if_pos c34]
                    by_cases c35 : (F_X11_hemOf l1) = (1 : Int32)
                    · rw [if_pos c35]
                      exact v_X11_moved (w_X11_moved_0_32 (f_X11_longOf (d := d + 1)) (f_X11_wideOf (d := d + 1)) (f_X11_hemOf (d := d + 1)) (f_X11_faceOf (d := d + 1)) (f_X11_twistOf (d := d + 1)) c0 c3 (f_X11_fitsIn (d := d + 0) hR ht) xs_82 c4 c5 c28 c29 c33 c34 c35 (f_X11_state (d := d + 1)))
                    · rw [if_neg c35]
                      exact v_X11_moved (w_X11_moved_0_33 (f_X11_longOf (d := d + 1)) (f_X11_wideOf (d := d + 1)) (f_X11_hemOf (d := d + 1)) (f_X11_faceOf (d := d + 1)) (f_X11_twistOf (d := d + 1)) c0 c3 (f_X11_fitsIn (d := d + 0) hR ht) xs_82 c4 c5 c28 c29 c33 c34 c35 (f_X11_state (d := d + 1)))
                  · rw [if_neg c34]
                    exact v_X11_moved (w_X11_moved_0_34 (f_X11_longOf (d := d + 1)) (f_X11_wideOf (d := d + 1)) (f_X11_hemOf (d := d + 1)) (f_X11_faceOf (d := d + 1)) (f_X11_twistOf (d := d + 1)) c0 c3 (f_X11_fitsIn (d := d + 0) hR ht) xs_82 c4 c5 c28 c29 c33 c34)
                · rw [if_neg c33]
                  by_cases c36 : l2 = (2 : Int32)
                  · rw [if_pos c36]
                    by_cases c37 : (F_X11_wideOf l1) - (F_X11_wideOf l1) / (3 : Int32) * (3 : Int32) = (0 : Int32)
                    · rw [if_pos c37]
                      by_cases c38 : (F_X11_hemOf l1) = (0 : Int32)
                      · rw [if_pos c38]
                        exact v_X11_moved (w_X11_moved_0_35 (f_X11_longOf (d := d + 1)) (f_X11_wideOf (d := d + 1)) (f_X11_hemOf (d := d + 1)) (f_X11_faceOf (d := d + 1)) (f_X11_twistOf (d := d + 1)) c0 c3 (f_X11_fitsIn (d := d + 0) hR ht) xs_82 c4 c5 c28 c29 c36 c37 c38 (f_X11_state (d := d + 1)))
                      · rw [if_neg c38]
                        by_cases c39 : (F_X11_hemOf l1) = (1 : Int32)
                        · rw [if_pos c39]
                          exact v_X11_moved (w_X11_moved_0_36 (f_X11_longOf (d := d + 1)) (f_X11_wideOf (d := d + 1)) (f_X11_hemOf (d := d + 1)) (f_X11_faceOf (d := d + 1)) (f_X11_twistOf (d := d + 1)) c0 c3 (f_X11_fitsIn (d := d + 0) hR ht) xs_82 c4 c5 c28 c29 c36 c37 c38 c39 (f_X11_state (d := d + 1)))
                        · rw [if_neg c39]
                          exact v_X11_moved (w_X11_moved_0_37 (f_X11_longOf (d := d + 1)) (f_X11_wideOf (d := d + 1)) (f_X11_hemOf (d := d + 1)) (f_X11_faceOf (d := d + 1)) (f_X11_twistOf (d := d + 1)) c0 c3 (f_X11_fitsIn (d := d + 0) hR ht) xs_82 c4 c5 c28 c29 c36 c37 c38 c39 (f_X11_state (d := d + 1)))
                    · rw [if_neg c37]
                      exact v_X11_moved (w_X11_moved_0_38 (f_X11_longOf (d := d + 1)) (f_X11_wideOf (d := d + 1)) (f_X11_hemOf (d := d + 1)) (f_X11_faceOf (d := d + 1)) (f_X11_twistOf (d := d + 1)) c0 c3 (f_X11_fitsIn (d := d + 0) hR ht) xs_82 c4 c5 c28 c29 c36 c37)
                  · rw [if_neg c36]
                    by_cases c40 : l2 = (3 : Int32)
                    · rw [if_pos c40]
                      by_cases c41 : (F_X11_longOf l1) - (F_X11_longOf l1) / (2 : Int32) * (2 : Int32) = (0 : Int32)
                      · rw [if_pos c41]
                        by_cases c42 : (F_X11_hemOf l1) = (2 : Int32)
                        · rw [if_pos c42]
                          exact v_X11_moved (w_X11_moved_0_39 (f_X11_longOf (d := d + 1)) (f_X11_wideOf (d := d + 1)) (f_X11_hemOf (d := d + 1)) (f_X11_faceOf (d := d + 1)) (f_X11_twistOf (d := d + 1)) c0 c3 (f_X11_fitsIn (d := d + 0) hR ht) xs_82 c4 c5 c28 c29 c40 c41 c42 (f_X11_state (d := d + 1)))
                        · rw [if_neg c42]
                          exact v_X11_moved (w_X11_moved_0_40 (f_X11_longOf (d := d + 1)) (f_X11_wideOf (d := d + 1)) (f_X11_hemOf (d := d + 1)) (f_X11_faceOf (d := d + 1)) (f_X11_twistOf (d := d + 1)) c0 c3 (f_X11_fitsIn (d := d + 0) hR ht) xs_82 c4 c5 c28 c29 c40 c41 c42 (f_X11_state (d := d + 1)))
                      · rw [if_neg c41]
                        exact v_X11_moved (w_X11_moved_0_41 (f_X11_longOf (d := d + 1)) (f_X11_wideOf (d := d + 1)) (f_X11_hemOf (d := d + 1)) (f_X11_faceOf (d := d + 1)) (f_X11_twistOf (d := d + 1)) c0 c3 (f_X11_fitsIn (d := d + 0) hR ht) xs_82 c4 c5 c28 c29 c40 c41)
                    · rw [if_neg c40]
                      by_cases c43 : l2 = (6 : Int32)
                      · rw [if_pos c43]
                        exact v_X11_moved (w_X11_moved_0_49 (f_X11_longOf (d := d + 1)) (f_X11_wideOf (d := d + 1)) (f_X11_hemOf (d := d + 1)) (f_X11_faceOf (d := d + 1)) (f_X11_twistOf (d := d + 1)) c0 c3 (f_X11_fitsIn (d := d + 0) hR ht) xs_82 c4 c5 c28 c29 c43 (f_X11_trade (d := d + 1)) (f_X11_state (d := d + 1)))
                      · rw [if_neg c43]
                        by_cases c44 : l2 = (7 : Int32)
                        · rw [if_pos c44]
                          exact v_X11_moved (w_X11_moved_0_50 (f_X11_longOf (d := d + 1)) (f_X11_wideOf (d := d + 1)) (f_X11_hemOf (d := d + 1)) (f_X11_faceOf (d := d + 1)) (f_X11_twistOf (d := d + 1)) c0 c3 (f_X11_fitsIn (d := d + 0) hR ht) xs_82 c4 c5 c28 c29 c44 (f_X11_trade (d := d + 1)) (f_X11_trade (d := d + 1)) (f_X11_state (d := d + 1)))
                        · rw [if_neg c44]
                          exact v_X11_moved (w_X11_moved_0_51 (f_X11_longOf (d := d + 1)) (f_X11_wideOf (d := d + 1)) (f_X11_hemOf (d := d + 1)) (f_X11_faceOf (d := d + 1)) (f_X11_twistOf (d := d + 1)) c0 c3 (f_X11_fitsIn (d := d + 0) hR ht) xs_82 c4 c5 c28 c29 (sw_out (lo := 0) (hi := 7) (by decide) (fun k hk1 hk2 => by
                              have hk : k = 0 ∨ k = 1 ∨ k = 2 ∨ k = 3 ∨ k = 4 ∨ k = 5 ∨ k = 6 ∨ k = 7 := by omega
                              rcases hk with rfl | rfl | rfl | rfl | rfl | rfl | rfl | rfl <;> first | exact c0 | exact c28 | exact c29 | exact c30 | exact c33 | exact c36 | exact c40 | exact c43 | exact c44)) (f_X11_round (d := d + 1)) (f_X11_state (d := d + 1)))
    · rw [if_neg c3]
      exact v_X11_moved (w_X11_moved_0_52 (f_X11_longOf (d := d + 1)) (f_X11_wideOf (d := d + 1)) (f_X11_hemOf (d := d + 1)) (f_X11_faceOf (d := d + 1)) (f_X11_twistOf (d := d + 1)) c0 c3)
def F_X11_takesOf (h : xm_H) (t : Nat) (l1 : Int32) : Int32 := if l1 = (12 : Int32) then (0 : Int32) else (if (10 : Int32) ≤ l1 then (h.1 83 5) else (F_X11_secondsOf h t l1))
theorem f_X11_takesOf {L : Nat} {xs : Nat → Int32} {d : Nat} {h : xm_H} {t : Nat} (hR : h.2.2 = xm_R0 t) (ht : t = 5 ∨ t = 13) {l1 : Int32} (g0 : (¬ (l1 = (12 : Int32))) → (¬ ((10 : Int32) ≤ l1)) → ¬ ((5 : Int32) + (F_X11_movingOf l1) < 0 ∨ 110 ≤ ((5 : Int32) + (F_X11_movingOf l1)).toNatClampNeg)) : xm_V (xm_X0 L xs) xm_P (d + 3) 233 [.ref 82, .int l1] h (some (.int (F_X11_takesOf h t l1))) h := by
  unfold F_X11_takesOf
  by_cases c0 : l1 = (12 : Int32)
  · rw [if_pos c0]
    exact v_X11_takesOf (p_X11_takesOf_0_0 c0)
  · rw [if_neg c0]
    by_cases c1 : (10 : Int32) ≤ l1
    · rw [if_pos c1]
      exact v_X11_takesOf (p_X11_takesOf_0_1 c0 c1 xs_82 (rr_l82_1 hR) xs_83 (by decide))
    · rw [if_neg c1]
      exact v_X11_takesOf (p_X11_takesOf_0_2 c0 c1 (f_X11_secondsOf (d := d + 0) hR ht (g0 c0 c1)) xs_82)
def F_X11_ofState (h : xm_H) (t : Nat) (l1 : Int32) (l2 : Int32) (l3 : Int32) : Int32 := if l2 = (0 : Int32) then (F_X11_longOf l1) else (if l2 = (1 : Int32) then (F_X11_wideOf l1) else (if l2 = (2 : Int32) then (F_X11_hemOf l1) else (if l2 = (3 : Int32) then (F_X11_faceOf l1) else (if l2 = (4 : Int32) then (F_X11_twistOf l1) else (if l2 = (5 : Int32) then (F_X11_layersOf h t l1) else (if l2 = (6 : Int32) then ((F_X11_layersOf h t l1) * (h.1 83 2)) else l3))))))
theorem f_X11_ofState {L : Nat} {xs : Nat → Int32} {d : Nat} {h : xm_H} {t : Nat} (hR : h.2.2 = xm_R0 t) (ht : t = 5 ∨ t = 13) {l1 : Int32} {l2 : Int32} {l3 : Int32} (g0 : (l2 = (5 : Int32)) → ¬ ((F_X11_longOf l1) * (F_X11_wideOf l1)) = 0) (g1 : (l2 = (6 : Int32)) → ¬ ((F_X11_longOf l1) * (F_X11_wideOf l1)) = 0) : xm_V (xm_X0 L xs) xm_P (d + 3) 236 [.ref 82, .int l1, .int l2, .int l3] h (some (.int (F_X11_ofState h t l1 l2 l3))) h := by
  unfold F_X11_ofState
  by_cases c0 : l2 = (0 : Int32)
  · rw [if_pos c0]
    exact v_X11_ofState (p_X11_ofState_0_0 c0 (f_X11_longOf (d := d + 1)))
  · rw [if_neg c0]
    by_cases c1 : l2 = (1 : Int32)
    · rw [if_pos c1]
      exact v_X11_ofState (p_X11_ofState_0_1 c1 (f_X11_wideOf (d := d + 1)))
    · rw [if_neg c1]
      by_cases c2 : l2 = (2 : Int32)
      · rw [if_pos c2]
        exact v_X11_ofState (p_X11_ofState_0_2 c2 (f_X11_hemOf (d := d + 1)))
      · rw [if_neg c2]
        by_cases c3 : l2 = (3 : Int32)
        · rw [if_pos c3]
          exact v_X11_ofState (p_X11_ofState_0_3 c3 (f_X11_faceOf (d := d + 1)))
        · rw [if_neg c3]
          by_cases c4 : l2 = (4 : Int32)
          · rw [if_pos c4]
            exact v_X11_ofState (p_X11_ofState_0_4 c4 (f_X11_twistOf (d := d + 1)))
          · rw [if_neg c4]
            by_cases c5 : l2 = (5 : Int32)
            · rw [if_pos c5]
              exact v_X11_ofState (p_X11_ofState_0_5 c5 (f_X11_layersOf (d := d + 0) hR ht (g0 c5)) xs_82)
            · rw [if_neg c5]
              by_cases c6 : l2 = (6 : Int32)
              · rw [if_pos c6]
                exact v_X11_ofState (p_X11_ofState_0_6 c6 (f_X11_layersOf (d := d + 0) hR ht (g1 c6)) xs_82 (rr_l82_1 hR) xs_83 (by decide))
              · rw [if_neg c6]
                exact v_X11_ofState (p_X11_ofState_0_7 (sw_out (lo := 0) (hi := 6) (by decide) (fun k hk1 hk2 => by
                    have hk : k = 0 ∨ k = 1 ∨ k = 2 ∨ k = 3 ∨ k = 4 ∨ k = 5 ∨ k = 6 := by omega
                    rcases hk with rfl | rfl | rfl | rfl | rfl | rfl | rfl <;> first | exact c0 | exact c1 | exact c2 | exact c3 | exact c4 | exact c5 | exact c6)))
def F_X11_costOf (h : xm_H) (t : Nat) (l1 : Int32) : Int32 := if h.1 82 25 = (0 : Int32) then (1 : Int32) else (F_X11_secondsOf h t l1)
theorem f_X11_costOf {L : Nat} {xs : Nat → Int32} {d : Nat} {h : xm_H} {t : Nat} (hR : h.2.2 = xm_R0 t) (ht : t = 5 ∨ t = 13) {l1 : Int32} (g0 : (¬ (h.1 82 25 = (0 : Int32))) → ¬ ((5 : Int32) + (F_X11_movingOf l1) < 0 ∨ 110 ≤ ((5 : Int32) + (F_X11_movingOf l1)).toNatClampNeg)) : xm_V (xm_X0 L xs) xm_P (d + 3) 265 [.ref 82, .int l1] h (some (.int (F_X11_costOf h t l1))) h := by
  unfold F_X11_costOf
  by_cases c0 : h.1 82 25 = (0 : Int32)
  · rw [if_pos c0]
    exact v_X11_costOf (p_X11_costOf_0_0 xs_82 c0)
  · rw [if_neg c0]
    exact v_X11_costOf (p_X11_costOf_0_1 xs_82 c0 (f_X11_secondsOf (d := d + 0) hR ht (g0 c0)))
def F_X11_means (h : xm_H) (t : Nat) (l1 : Int32) : Int32 := if (F_X11_isCall h t l1.toInt64) = (0 : Int32) then (-2 : Int32) else (F_X11_meaning (F_X11_her h t l1) (F_X11_his h t l1))
theorem f_X11_means {L : Nat} {xs : Nat → Int32} {d : Nat} {h : xm_H} {t : Nat} (hR : h.2.2 = xm_R0 t) (ht : t = 5 ∨ t = 13) {l1 : Int32} (g0 : xm_okr 3 (F_X11_in l1.toInt64 (0 : Int64) (((h.1 83 19) - (1 : Int32)).toInt64)) = true) (g1 : (¬ ((F_X11_isCall h t l1.toInt64) = (0 : Int32))) → ¬ ((24 : Int32) + ((2 : Int32) * l1) < 0 ∨ 110 ≤ ((24 : Int32) + ((2 : Int32) * l1)).toNatClampNeg)) (g2 : (¬ ((F_X11_isCall h t l1.toInt64) = (0 : Int32))) → ¬ (((24 : Int32) + ((2 : Int32) * l1)) + (1 : Int32) < 0 ∨ 110 ≤ (((24 : Int32) + ((2 : Int32) * l1)) + (1 : Int32)).toNatClampNeg)) : xm_V (xm_X0 L xs) xm_P (d + 3) 287 [.ref 82, .int l1] h (some (.int (F_X11_means h t l1))) h := by
  unfold F_X11_means
  by_cases c0 : (F_X11_isCall h t l1.toInt64) = (0 : Int32)
  · rw [if_pos c0]
    exact v_X11_means (p_X11_means_0_0 (f_X11_isCall (d := d + 0) hR ht (g0)) xs_82 c0)
  · rw [if_neg c0]
    exact v_X11_means (p_X11_means_0_1 (f_X11_isCall (d := d + 0) hR ht (g0)) xs_82 c0 (f_X11_her (d := d + 1) hR ht (g1 c0)) (f_X11_his (d := d + 1) hR ht (g2 c0)) (f_X11_meaning (d := d + 1)))
def F_X10_viewOf (h : xm_H) (t : Nat) (l1 : Int32) (l2 : Int32) (l3 : Int32) : Int32 := if l3 = (0 : Int32) then (F_X5_longOf l1) else (if l3 = (1 : Int32) then (F_X5_wideOf l1) else (if l3 = (2 : Int32) then (F_X5_hemOf l1) else (if l3 = (3 : Int32) then (F_X5_faceOf l1) else (if l3 = (4 : Int32) then (F_X5_twistOf l1) else (if l3 = (5 : Int32) then (F_X0_layersOf h t l1) else (if l3 = (6 : Int32) then (F_X0_thicknessOf h t l1) else (if l3 = (7 : Int32) then l2 else (-100 : Int32))))))))
theorem f_X10_viewOf {L : Nat} {xs : Nat → Int32} {d : Nat} {h : xm_H} {t : Nat} (hR : h.2.2 = xm_R0 t) (ht : t = 5 ∨ t = 13) {l1 : Int32} {l2 : Int32} {l3 : Int32} (g0 : (l3 = (5 : Int32)) → ((0 : Int32) < (F_X5_longOf l1) * (F_X5_wideOf l1)) → ¬ ((F_X5_longOf l1) * (F_X5_wideOf l1)) = 0) (g1 : (l3 = (6 : Int32)) → ((0 : Int32) < (F_X5_longOf l1) * (F_X5_wideOf l1)) → ¬ ((F_X5_longOf l1) * (F_X5_wideOf l1)) = 0) : xm_V (xm_X0 L xs) xm_P (d + 4) 37 [.ref 0, .int l1, .int l2, .int l3] h (some (.int (F_X10_viewOf h t l1 l2 l3))) h := by
  unfold F_X10_viewOf
  by_cases c0 : l3 = (0 : Int32)
  · rw [if_pos c0]
    exact v_X10_viewOf (p_X10_viewOf_0_0 c0 (f_X5_longOf (d := d + 2)))
  · rw [if_neg c0]
    by_cases c1 : l3 = (1 : Int32)
    · rw [if_pos c1]
      exact v_X10_viewOf (p_X10_viewOf_0_1 c1 (f_X5_wideOf (d := d + 2)))
    · rw [if_neg c1]
      by_cases c2 : l3 = (2 : Int32)
      · rw [if_pos c2]
        exact v_X10_viewOf (p_X10_viewOf_0_2 c2 (f_X5_hemOf (d := d + 2)))
      · rw [if_neg c2]
        by_cases c3 : l3 = (3 : Int32)
        · rw [if_pos c3]
          exact v_X10_viewOf (p_X10_viewOf_0_3 c3 (f_X5_faceOf (d := d + 2)))
        · rw [if_neg c3]
          by_cases c4 : l3 = (4 : Int32)
          · rw [if_pos c4]
            exact v_X10_viewOf (p_X10_viewOf_0_4 c4 (f_X5_twistOf (d := d + 2)))
          · rw [if_neg c4]
            by_cases c5 : l3 = (5 : Int32)
            · rw [if_pos c5]
              exact v_X10_viewOf (p_X10_viewOf_0_5 c5 xs_0 (rr_l0_1 hR) xs_3 (rr_l3_0 hR) (f_X0_layersOf (d := d + 1) hR ht (g0 c5)) (xt_0 ht))
            · rw [if_neg c5]
              by_cases c6 : l3 = (6 : Int32)
              · rw [if_pos c6]
                exact v_X10_viewOf (p_X10_viewOf_0_6 c6 xs_0 (rr_l0_1 hR) xs_3 (rr_l3_0 hR) (f_X0_thicknessOf (d := d + 0) hR ht (g1 c6)) (xt_0 ht))
              · rw [if_neg c6]
                by_cases c7 : l3 = (7 : Int32)
                · rw [if_pos c7]
                  exact v_X10_viewOf (p_X10_viewOf_0_7 c7)
                · rw [if_neg c7]
                  exact v_X10_viewOf (p_X10_viewOf_0_8 (sw_out (lo := 0) (hi := 7) (by decide) (fun k hk1 hk2 => by
                      have hk : k = 0 ∨ k = 1 ∨ k = 2 ∨ k = 3 ∨ k = 4 ∨ k = 5 ∨ k = 6 ∨ k = 7 := by omega
                      rcases hk with rfl | rfl | rfl | rfl | rfl | rfl | rfl | rfl <;> first | exact c0 | exact c1 | exact c2 | exact c3 | exact c4 | exact c5 | exact c6 | exact c7)))
def F_X10_fits (h : xm_H) (t : Nat) : Int32 := if (F_X9_isNone h t) = (0 : Int32) then (if h.1 t 9 = (0 : Int32) then (-1 : Int32) else (if (0 : Int32) < (F_X0_thicknessOf h t (h.1 3 3)) then ((h.1 t 9) / (F_X0_thicknessOf h t (h.1 3 3))) else (-1 : Int32))) else (-2 : Int32)
theorem f_X10_fits {L : Nat} {xs : Nat → Int32} {d : Nat} {h : xm_H} {t : Nat} (hR : h.2.2 = xm_R0 t) (ht : t = 5 ∨ t = 13) (g0 : ((F_X9_isNone h t) = (0 : Int32)) → ((0 : Int32) < (F_X5_longOf (h.1 3 3)) * (F_X5_wideOf (h.1 3 3))) → ¬ ((F_X5_longOf (h.1 3 3)) * (F_X5_wideOf (h.1 3 3))) = 0) (g1 : ((F_X9_isNone h t) = (0 : Int32)) → (¬ (h.1 t 9 = (0 : Int32))) → ((0 : Int32) < (F_X0_thicknessOf h t (h.1 3 3))) → ¬ (F_X0_thicknessOf h t (h.1 3 3)) = 0) : xm_V (xm_X0 L xs) xm_P (d + 4) 145 [.ref 0] h (some (.int (F_X10_fits h t))) h := by
  unfold F_X10_fits
  by_cases c0 : (F_X9_isNone h t) = (0 : Int32)
  · rw [if_pos c0]
    by_cases c1 : h.1 t 9 = (0 : Int32)
    · rw [if_pos c1]
      exact v_X10_fits (p_X10_fits_0_0 xs_0 (rr_l0_1 hR) (f_X9_isNone (d := d + 2) hR ht) xs_3 c0 (rr_l0_1 hR) xs_3 (rr_l3_0 hR) (f_X0_thicknessOf (d := d + 0) hR ht (g0 c0)) (xt_0 ht) (rr_l0_1 hR) xs_3 (rr_l3_0 hR) (xt_0 ht) c1)
    · rw [if_neg c1]
      by_cases c2 : (0 : Int32) < (F_X0_thicknessOf h t (h.1 3 3))
      · rw [if_pos c2]
        exact v_X10_fits (p_X10_fits_0_1 xs_0 (rr_l0_1 hR) (f_X9_isNone (d := d + 2) hR ht) xs_3 c0 (rr_l0_1 hR) xs_3 (rr_l3_0 hR) (f_X0_thicknessOf (d := d + 0) hR ht (g0 c0)) (xt_0 ht) (rr_l0_1 hR) xs_3 (rr_l3_0 hR) (xt_0 ht) c1 c2 (g1 c0 c1 c2))
      · rw [if_neg c2]
        exact v_X10_fits (p_X10_fits_0_2 xs_0 (rr_l0_1 hR) (f_X9_isNone (d := d + 2) hR ht) xs_3 c0 (rr_l0_1 hR) xs_3 (rr_l3_0 hR) (f_X0_thicknessOf (d := d + 0) hR ht (g0 c0)) (xt_0 ht) (rr_l0_1 hR) xs_3 (rr_l3_0 hR) (xt_0 ht) c1 c2)
  · rw [if_neg c0]
    exact v_X10_fits (p_X10_fits_0_3 xs_0 (rr_l0_1 hR) (f_X9_isNone (d := d + 2) hR ht) xs_3 c0)
def F_X10_thin (h : xm_H) (t : Nat) : Int32 := if (F_X9_isNone h t) = (0 : Int32) then (if h.1 t 9 = (0 : Int32) then (-1 : Int32) else (if (0 : Int32) < (F_X0_thicknessOf h t (h.1 3 3)) then (if (h.1 t 9) / (((h.1 t 9) / (F_X0_thicknessOf h t (h.1 3 3))) + (1 : Int32)) = (0 : Int32) then (-1 : Int32) else ((F_X0_thicknessOf h t (h.1 3 3)) - ((h.1 t 9) / (((h.1 t 9) / (F_X0_thicknessOf h t (h.1 3 3))) + (1 : Int32))))) else (-1 : Int32))) else (-2 : Int32)
theorem f_X10_thin {L : Nat} {xs : Nat → Int32} {d : Nat} {h : xm_H} {t : Nat} (hR : h.2.2 = xm_R0 t) (ht : t = 5 ∨ t = 13) (g0 : ((F_X9_isNone h t) = (0 : Int32)) → ((0 : Int32) < (F_X5_longOf (h.1 3 3)) * (F_X5_wideOf (h.1 3 3))) → ¬ ((F_X5_longOf (h.1 3 3)) * (F_X5_wideOf (h.1 3 3))) = 0) (g1 : ((F_X9_isNone h t) = (0 : Int32)) → (¬ (h.1 t 9 = (0 : Int32))) → ((0 : Int32) < (F_X0_thicknessOf h t (h.1 3 3))) → ¬ (F_X0_thicknessOf h t (h.1 3 3)) = 0) (g2 : ((F_X9_isNone h t) = (0 : Int32)) → (¬ (h.1 t 9 = (0 : Int32))) → ((0 : Int32) < (F_X0_thicknessOf h t (h.1 3 3))) → ¬ (((h.1 t 9) / (F_X0_thicknessOf h t (h.1 3 3))) + (1 : Int32)) = 0) : xm_V (xm_X0 L xs) xm_P (d + 4) 152 [.ref 0] h (some (.int (F_X10_thin h t))) h := by
  unfold F_X10_thin
  by_cases c0 : (F_X9_isNone h t) = (0 : Int32)
  · rw [if_pos c0]
    by_cases c1 : h.1 t 9 = (0 : Int32)
    · rw [if_pos c1]
      exact v_X10_thin (p_X10_thin_0_0 xs_0 (rr_l0_1 hR) (f_X9_isNone (d := d + 2) hR ht) xs_3 c0 (rr_l0_1 hR) xs_3 (rr_l3_0 hR) (f_X0_thicknessOf (d := d + 0) hR ht (g0 c0)) (xt_0 ht) (rr_l0_1 hR) xs_3 (rr_l3_0 hR) (xt_0 ht) c1)
    · rw [if_neg c1]
      by_cases c2 : (0 : Int32) < (F_X0_thicknessOf h t (h.1 3 3))
      · rw [if_pos c2]
        by_cases c3 : (h.1 t 9) / (((h.1 t 9) / (F_X0_thicknessOf h t (h.1 3 3))) + (1 : Int32)) = (0 : Int32)
        · rw [if_pos c3]
          exact v_X10_thin (p_X10_thin_0_1 xs_0 (rr_l0_1 hR) (f_X9_isNone (d := d + 2) hR ht) xs_3 c0 (rr_l0_1 hR) xs_3 (rr_l3_0 hR) (f_X0_thicknessOf (d := d + 0) hR ht (g0 c0)) (xt_0 ht) (rr_l0_1 hR) xs_3 (rr_l3_0 hR) (xt_0 ht) c1 c2 (g1 c0 c1 c2) (g2 c0 c1 c2) c3)
        · rw [if_neg c3]
          exact v_X10_thin (p_X10_thin_0_2 xs_0 (rr_l0_1 hR) (f_X9_isNone (d := d + 2) hR ht) xs_3 c0 (rr_l0_1 hR) xs_3 (rr_l3_0 hR) (f_X0_thicknessOf (d := d + 0) hR ht (g0 c0)) (xt_0 ht) (rr_l0_1 hR) xs_3 (rr_l3_0 hR) (xt_0 ht) c1 c2 (g1 c0 c1 c2) (g2 c0 c1 c2) c3)
      · rw [if_neg c2]
        exact v_X10_thin (p_X10_thin_0_3 xs_0 (rr_l0_1 hR) (f_X9_isNone (d := d + 2) hR ht) xs_3 c0 (rr_l0_1 hR) xs_3 (rr_l3_0 hR) (f_X0_thicknessOf (d := d + 0) hR ht (g0 c0)) (xt_0 ht) (rr_l0_1 hR) xs_3 (rr_l3_0 hR) (xt_0 ht) c1 c2)
  · rw [if_neg c0]
    exact v_X10_thin (p_X10_thin_0_4 xs_0 (rr_l0_1 hR) (f_X9_isNone (d := d + 2) hR ht) xs_3 c0)
theorem w_X11_done_0_0 {X : xm_X} {P : List xm_M} {d : Nat} {h : xm_H} {l0 : Nat} {l1 : Int32} {l2 : Int32} (q0 : l2 = (12 : Int32)) : xm_E X P d co_X11_done 0 [some (.ref l0), some (.int l1), some (.int l2), none, none] [] h (some (.int l1)) h := by
  refine xm_E_s r_X11_done_0 rfl rfl ?_
  refine xm_E_s r_X11_done_1 rfl rfl ?_
  refine xm_E_s r_X11_done_2 rfl rfl ?_
  refine xm_E_t q0 ?_
  refine xm_E_s r_X11_done_3 rfl rfl ?_
  exact xm_E_iret r_X11_done_4 rfl rfl
theorem w_X11_done_0_1 {X : xm_X} {P : List xm_M} {d : Nat} {h : xm_H} {l0 : Nat} {l1 : Int32} {l2 : Int32} {h0 : xm_H} {r0 : Int32} {h1 : xm_H} {r1 : Int32} (q0 : ¬ (l2 = (12 : Int32))) (q1 : (10 : Int32) ≤ l2) (q2 : xm_V X P d 228 [.int l1] h (some (.int r0)) h0) (q3 : l2 = (10 : Int32)) (q4 : xm_V X P d 224 [.int l1] h0 (some (.int r1)) h1) (q5 : X.1[l0]? = some (.inr 10)) (q6 : h1.1 l0 15 < r1) : xm_E X P d co_X11_done 0 [some (.ref l0), some (.int l1), some (.int l2), none, none] [] h (some (.int (-1 : Int32))) h1 := by
  refine xm_E_s r_X11_done_0 rfl rfl ?_
  refine xm_E_s r_X11_done_1 rfl rfl ?_
  refine xm_E_s r_X11_done_2 rfl rfl ?_
  refine xm_E_f q0 ?_
  refine xm_E_s r_X11_done_5 rfl rfl ?_
  refine xm_E_s r_X11_done_6 rfl rfl ?_
  refine xm_E_s r_X11_done_7 rfl rfl ?_
  refine xm_E_t q1 ?_
  refine xm_E_s r_X11_done_13 rfl rfl ?_
  refine xm_E_cs [.int l1] [] r_X11_done_14 rfl rfl rfl (Nat.le_of_ble_eq_true rfl) rfl q2 ?_
  refine xm_E_s r_X11_done_15 rfl rfl ?_
  refine xm_E_s r_X11_done_16 rfl rfl ?_
  refine xm_E_s r_X11_done_17 rfl rfl ?_
  refine xm_E_t q3 ?_
  refine xm_E_s r_X11_done_18 rfl rfl ?_
  refine xm_E_s r_X11_done_19 rfl rfl ?_
  refine xm_E_s r_X11_done_21 rfl rfl ?_
  refine xm_E_s (ls1 := [some (.ref l0), some (.int l1), some (.int l2), some (.int (r0 + (1 : Int32))), none]) r_X11_done_22 rfl rfl ?_
  refine xm_E_s r_X11_done_23 rfl rfl ?_
  refine xm_E_cs [.int l1] [] r_X11_done_24 rfl rfl rfl (Nat.le_of_ble_eq_true rfl) rfl q4 ?_
  refine xm_E_s r_X11_done_25 rfl rfl ?_
  refine xm_E_s r_X11_done_26 rfl (xm_T_gi rfl q5 rfl (Or.inl rfl)) ?_
  refine xm_E_s r_X11_done_27 rfl rfl ?_
  refine xm_E_t q6 ?_
  refine xm_E_s r_X11_done_41 rfl rfl ?_
  refine xm_E_s (ls1 := [some (.ref l0), some (.int l1), some (.int l2), some (.int (r0 + (1 : Int32))), some (.int (0 : Int32))]) r_X11_done_42 rfl rfl ?_
  refine xm_E_s r_X11_done_43 rfl rfl ?_
  refine xm_E_s r_X11_done_44 rfl rfl ?_
  show xm_E X P d co_X11_done 56 _ _ _ _ _
  refine xm_E_s r_X11_done_56 rfl rfl ?_
  exact xm_E_iret r_X11_done_57 rfl rfl
theorem w_X11_done_0_2 {X : xm_X} {P : List xm_M} {d : Nat} {h : xm_H} {l0 : Nat} {l1 : Int32} {l2 : Int32} {h0 : xm_H} {r0 : Int32} {h1 : xm_H} {r1 : Int32} {h2 : xm_H} {r2 : Int32} {h3 : xm_H} {r3 : Int32} (q0 : ¬ (l2 = (12 : Int32))) (q1 : (10 : Int32) ≤ l2) (q2 : xm_V X P d 228 [.int l1] h (some (.int r0)) h0) (q3 : l2 = (10 : Int32)) (q4 : xm_V X P d 224 [.int l1] h0 (some (.int r1)) h1) (q5 : X.1[l0]? = some (.inr 10)) (q6 : ¬ (h1.1 l0 15 < r1)) (q7 : xm_V X P d 225 [.int l1] h1 (some (.int r2)) h2) (q8 : r2 - r2 / (2 : Int32) * (2 : Int32) = (0 : Int32)) (q9 : xm_V X P d 191 [.long ((r0 + (1 : Int32)).toInt64), .long (-2 : Int64), .long (2 : Int64)] h2 (some (.int r3)) h3) (q10 : r3 = (0 : Int32)) : xm_E X P d co_X11_done 0 [some (.ref l0), some (.int l1), some (.int l2), none, none] [] h (some (.int (-1 : Int32))) h3 := by
  refine xm_E_s r_X11_done_0 rfl rfl ?_
  refine xm_E_s r_X11_done_1 rfl rfl ?_
  refine xm_E_s r_X11_done_2 rfl rfl ?_
  refine xm_E_f q0 ?_
  refine xm_E_s r_X11_done_5 rfl rfl ?_
  refine xm_E_s r_X11_done_6 rfl rfl ?_
  refine xm_E_s r_X11_done_7 rfl rfl ?_
  refine xm_E_t q1 ?_
  refine xm_E_s r_X11_done_13 rfl rfl ?_
  refine xm_E_cs [.int l1] [] r_X11_done_14 rfl rfl rfl (Nat.le_of_ble_eq_true rfl) rfl q2 ?_
  refine xm_E_s r_X11_done_15 rfl rfl ?_
  refine xm_E_s r_X11_done_16 rfl rfl ?_
  refine xm_E_s r_X11_done_17 rfl rfl ?_
  refine xm_E_t q3 ?_
  refine xm_E_s r_X11_done_18 rfl rfl ?_
  refine xm_E_s r_X11_done_19 rfl rfl ?_
  refine xm_E_s r_X11_done_21 rfl rfl ?_
  refine xm_E_s (ls1 := [some (.ref l0), some (.int l1), some (.int l2), some (.int (r0 + (1 : Int32))), none]) r_X11_done_22 rfl rfl ?_
  refine xm_E_s r_X11_done_23 rfl rfl ?_
  refine xm_E_cs [.int l1] [] r_X11_done_24 rfl rfl rfl (Nat.le_of_ble_eq_true rfl) rfl q4 ?_
  refine xm_E_s r_X11_done_25 rfl rfl ?_
  refine xm_E_s r_X11_done_26 rfl (xm_T_gi rfl q5 rfl (Or.inl rfl)) ?_
  refine xm_E_s r_X11_done_27 rfl rfl ?_
  refine xm_E_f q6 ?_
  refine xm_E_s r_X11_done_28 rfl rfl ?_
  refine xm_E_cs [.int l1] [] r_X11_done_29 rfl rfl rfl (Nat.le_of_ble_eq_true rfl) rfl q7 ?_
  refine xm_E_s r_X11_done_30 rfl rfl ?_
  refine xm_E_s r_X11_done_31 rfl (xm_T_irem rfl (by decide)) ?_
  refine xm_E_s r_X11_done_32 rfl rfl ?_
  refine xm_E_t q8 ?_
  refine xm_E_s r_X11_done_33 rfl rfl ?_
  refine xm_E_s r_X11_done_34 rfl rfl ?_
  refine xm_E_s r_X11_done_35 rfl rfl ?_
  refine xm_E_s r_X11_done_36 rfl rfl ?_
  refine xm_E_cs [.long ((r0 + (1 : Int32)).toInt64), .long (-2 : Int64), .long (2 : Int64)] [] r_X11_done_37 rfl rfl rfl (Nat.le_of_ble_eq_true rfl) rfl q9 ?_
  refine xm_E_s r_X11_done_38 rfl rfl ?_
  refine xm_E_t q10 ?_
  refine xm_E_s r_X11_done_41 rfl rfl ?_
  refine xm_E_s (ls1 := [some (.ref l0), some (.int l1), some (.int l2), some (.int (r0 + (1 : Int32))), some (.int (0 : Int32))]) r_X11_done_42 rfl rfl ?_
  refine xm_E_s r_X11_done_43 rfl rfl ?_
  refine xm_E_s r_X11_done_44 rfl rfl ?_
  show xm_E X P d co_X11_done 56 _ _ _ _ _
  refine xm_E_s r_X11_done_56 rfl rfl ?_
  exact xm_E_iret r_X11_done_57 rfl rfl
theorem w_X11_done_0_3 {X : xm_X} {P : List xm_M} {d : Nat} {h : xm_H} {l0 : Nat} {l1 : Int32} {l2 : Int32} {h0 : xm_H} {r0 : Int32} {h1 : xm_H} {r1 : Int32} {h2 : xm_H} {r2 : Int32} {h3 : xm_H} {r3 : Int32} {h4 : xm_H} {r4 : Int32} {h5 : xm_H} {r5 : Int32} {h6 : xm_H} {r6 : Int32} {h7 : xm_H} {r7 : Int32} {h8 : xm_H} {r8 : Int32} (q0 : ¬ (l2 = (12 : Int32))) (q1 : (10 : Int32) ≤ l2) (q2 : xm_V X P d 228 [.int l1] h (some (.int r0)) h0) (q3 : l2 = (10 : Int32)) (q4 : xm_V X P d 224 [.int l1] h0 (some (.int r1)) h1) (q5 : X.1[l0]? = some (.inr 10)) (q6 : ¬ (h1.1 l0 15 < r1)) (q7 : xm_V X P d 225 [.int l1] h1 (some (.int r2)) h2) (q8 : r2 - r2 / (2 : Int32) * (2 : Int32) = (0 : Int32)) (q9 : xm_V X P d 191 [.long ((r0 + (1 : Int32)).toInt64), .long (-2 : Int64), .long (2 : Int64)] h2 (some (.int r3)) h3) (q10 : ¬ (r3 = (0 : Int32))) (q11 : xm_V X P d 224 [.int l1] h3 (some (.int r4)) h4) (q12 : xm_V X P d 225 [.int l1] h4 (some (.int r5)) h5) (q13 : xm_V X P d 226 [.int l1] h5 (some (.int r6)) h6) (q14 : xm_V X P d 227 [.int l1] h6 (some (.int r7)) h7) (q15 : xm_V X P d 221 [.int r4, .int r5, .int r6, .int r7, .int (r0 + (1 : Int32))] h7 (some (.int r8)) h8) : xm_E X P d co_X11_done 0 [some (.ref l0), some (.int l1), some (.int l2), none, none] [] h (some (.int r8)) h8 := by
  refine xm_E_s r_X11_done_0 rfl rfl ?_
  refine xm_E_s r_X11_done_1 rfl rfl ?_
  refine xm_E_s r_X11_done_2 rfl rfl ?_
  refine xm_E_f q0 ?_
  refine xm_E_s r_X11_done_5 rfl rfl ?_
  refine xm_E_s r_X11_done_6 rfl rfl ?_
  refine xm_E_s r_X11_done_7 rfl rfl ?_
  refine xm_E_t q1 ?_
  refine xm_E_s r_X11_done_13 rfl rfl ?_
  refine xm_E_cs [.int l1] [] r_X11_done_14 rfl rfl rfl (Nat.le_of_ble_eq_true rfl) rfl q2 ?_
  refine xm_E_s r_X11_done_15 rfl rfl ?_
  refine xm_E_s r_X11_done_16 rfl rfl ?_
  refine xm_E_s r_X11_done_17 rfl rfl ?_
  refine xm_E_t q3 ?_
  refine xm_E_s r_X11_done_18 rfl rfl ?_
  refine xm_E_s r_X11_done_19 rfl rfl ?_
  refine xm_E_s r_X11_done_21 rfl rfl ?_
  refine xm_E_s (ls1 := [some (.ref l0), some (.int l1), some (.int l2), some (.int (r0 + (1 : Int32))), none]) r_X11_done_22 rfl rfl ?_
  refine xm_E_s r_X11_done_23 rfl rfl ?_
  refine xm_E_cs [.int l1] [] r_X11_done_24 rfl rfl rfl (Nat.le_of_ble_eq_true rfl) rfl q4 ?_
  refine xm_E_s r_X11_done_25 rfl rfl ?_
  refine xm_E_s r_X11_done_26 rfl (xm_T_gi rfl q5 rfl (Or.inl rfl)) ?_
  refine xm_E_s r_X11_done_27 rfl rfl ?_
  refine xm_E_f q6 ?_
  refine xm_E_s r_X11_done_28 rfl rfl ?_
  refine xm_E_cs [.int l1] [] r_X11_done_29 rfl rfl rfl (Nat.le_of_ble_eq_true rfl) rfl q7 ?_
  refine xm_E_s r_X11_done_30 rfl rfl ?_
  refine xm_E_s r_X11_done_31 rfl (xm_T_irem rfl (by decide)) ?_
  refine xm_E_s r_X11_done_32 rfl rfl ?_
  refine xm_E_t q8 ?_
  refine xm_E_s r_X11_done_33 rfl rfl ?_
  refine xm_E_s r_X11_done_34 rfl rfl ?_
  refine xm_E_s r_X11_done_35 rfl rfl ?_
  refine xm_E_s r_X11_done_36 rfl rfl ?_
  refine xm_E_cs [.long ((r0 + (1 : Int32)).toInt64), .long (-2 : Int64), .long (2 : Int64)] [] r_X11_done_37 rfl rfl rfl (Nat.le_of_ble_eq_true rfl) rfl q9 ?_
  refine xm_E_s r_X11_done_38 rfl rfl ?_
  refine xm_E_f q10 ?_
  refine xm_E_s r_X11_done_39 rfl rfl ?_
  refine xm_E_s r_X11_done_40 rfl rfl ?_
  refine xm_E_s (ls1 := [some (.ref l0), some (.int l1), some (.int l2), some (.int (r0 + (1 : Int32))), some (.int (1 : Int32))]) r_X11_done_42 rfl rfl ?_
  refine xm_E_s r_X11_done_43 rfl rfl ?_
  refine xm_E_s r_X11_done_44 rfl rfl ?_
  show xm_E X P d co_X11_done 45 _ _ _ _ _
  refine xm_E_s r_X11_done_45 rfl rfl ?_
  refine xm_E_cs [.int l1] [] r_X11_done_46 rfl rfl rfl (Nat.le_of_ble_eq_true rfl) rfl q11 ?_
  refine xm_E_s r_X11_done_47 rfl rfl ?_
  refine xm_E_cs [.int l1] [.int r4] r_X11_done_48 rfl rfl rfl (Nat.le_of_ble_eq_true rfl) rfl q12 ?_
  refine xm_E_s r_X11_done_49 rfl rfl ?_
  refine xm_E_cs [.int l1] [.int r5, .int r4] r_X11_done_50 rfl rfl rfl (Nat.le_of_ble_eq_true rfl) rfl q13 ?_
  refine xm_E_s r_X11_done_51 rfl rfl ?_
  refine xm_E_cs [.int l1] [.int r6, .int r5, .int r4] r_X11_done_52 rfl rfl rfl (Nat.le_of_ble_eq_true rfl) rfl q14 ?_
  refine xm_E_s r_X11_done_53 rfl rfl ?_
  refine xm_E_cs [.int r4, .int r5, .int r6, .int r7, .int (r0 + (1 : Int32))] [] r_X11_done_54 rfl rfl rfl (Nat.le_of_ble_eq_true rfl) rfl q15 ?_
  refine xm_E_s r_X11_done_55 rfl rfl ?_
  exact xm_E_iret r_X11_done_57 rfl rfl
theorem w_X11_done_0_4 {X : xm_X} {P : List xm_M} {d : Nat} {h : xm_H} {l0 : Nat} {l1 : Int32} {l2 : Int32} {h0 : xm_H} {r0 : Int32} {h1 : xm_H} {r1 : Int32} {h2 : xm_H} {r2 : Int32} (q0 : ¬ (l2 = (12 : Int32))) (q1 : (10 : Int32) ≤ l2) (q2 : xm_V X P d 228 [.int l1] h (some (.int r0)) h0) (q3 : l2 = (10 : Int32)) (q4 : xm_V X P d 224 [.int l1] h0 (some (.int r1)) h1) (q5 : X.1[l0]? = some (.inr 10)) (q6 : ¬ (h1.1 l0 15 < r1)) (q7 : xm_V X P d 225 [.int l1] h1 (some (.int r2)) h2) (q8 : ¬ (r2 - r2 / (2 : Int32) * (2 : Int32) = (0 : Int32))) : xm_E X P d co_X11_done 0 [some (.ref l0), some (.int l1), some (.int l2), none, none] [] h (some (.int (-1 : Int32))) h2 := by
  refine xm_E_s r_X11_done_0 rfl rfl ?_
  refine xm_E_s r_X11_done_1 rfl rfl ?_
  refine xm_E_s r_X11_done_2 rfl rfl ?_
  refine xm_E_f q0 ?_
  refine xm_E_s r_X11_done_5 rfl rfl ?_
  refine xm_E_s r_X11_done_6 rfl rfl ?_
  refine xm_E_s r_X11_done_7 rfl rfl ?_
  refine xm_E_t q1 ?_
  refine xm_E_s r_X11_done_13 rfl rfl ?_
  refine xm_E_cs [.int l1] [] r_X11_done_14 rfl rfl rfl (Nat.le_of_ble_eq_true rfl) rfl q2 ?_
  refine xm_E_s r_X11_done_15 rfl rfl ?_
  refine xm_E_s r_X11_done_16 rfl rfl ?_
  refine xm_E_s r_X11_done_17 rfl rfl ?_
  refine xm_E_t q3 ?_
  refine xm_E_s r_X11_done_18 rfl rfl ?_
  refine xm_E_s r_X11_done_19 rfl rfl ?_
  refine xm_E_s r_X11_done_21 rfl rfl ?_
  refine xm_E_s (ls1 := [some (.ref l0), some (.int l1), some (.int l2), some (.int (r0 + (1 : Int32))), none]) r_X11_done_22 rfl rfl ?_
  refine xm_E_s r_X11_done_23 rfl rfl ?_
  refine xm_E_cs [.int l1] [] r_X11_done_24 rfl rfl rfl (Nat.le_of_ble_eq_true rfl) rfl q4 ?_
  refine xm_E_s r_X11_done_25 rfl rfl ?_
  refine xm_E_s r_X11_done_26 rfl (xm_T_gi rfl q5 rfl (Or.inl rfl)) ?_
  refine xm_E_s r_X11_done_27 rfl rfl ?_
  refine xm_E_f q6 ?_
  refine xm_E_s r_X11_done_28 rfl rfl ?_
  refine xm_E_cs [.int l1] [] r_X11_done_29 rfl rfl rfl (Nat.le_of_ble_eq_true rfl) rfl q7 ?_
  refine xm_E_s r_X11_done_30 rfl rfl ?_
  refine xm_E_s r_X11_done_31 rfl (xm_T_irem rfl (by decide)) ?_
  refine xm_E_s r_X11_done_32 rfl rfl ?_
  refine xm_E_f q8 ?_
  refine xm_E_s r_X11_done_41 rfl rfl ?_
  refine xm_E_s (ls1 := [some (.ref l0), some (.int l1), some (.int l2), some (.int (r0 + (1 : Int32))), some (.int (0 : Int32))]) r_X11_done_42 rfl rfl ?_
  refine xm_E_s r_X11_done_43 rfl rfl ?_
  refine xm_E_s r_X11_done_44 rfl rfl ?_
  show xm_E X P d co_X11_done 56 _ _ _ _ _
  refine xm_E_s r_X11_done_56 rfl rfl ?_
  exact xm_E_iret r_X11_done_57 rfl rfl
theorem w_X11_done_0_5 {X : xm_X} {P : List xm_M} {d : Nat} {h : xm_H} {l0 : Nat} {l1 : Int32} {l2 : Int32} {h0 : xm_H} {r0 : Int32} {h1 : xm_H} {r1 : Int32} (q0 : ¬ (l2 = (12 : Int32))) (q1 : (10 : Int32) ≤ l2) (q2 : xm_V X P d 228 [.int l1] h (some (.int r0)) h0) (q3 : ¬ (l2 = (10 : Int32))) (q4 : xm_V X P d 224 [.int l1] h0 (some (.int r1)) h1) (q5 : X.1[l0]? = some (.inr 10)) (q6 : h1.1 l0 15 < r1) : xm_E X P d co_X11_done 0 [some (.ref l0), some (.int l1), some (.int l2), none, none] [] h (some (.int (-1 : Int32))) h1 := by
  refine xm_E_s r_X11_done_0 rfl rfl ?_
  refine xm_E_s r_X11_done_1 rfl rfl ?_
  refine xm_E_s r_X11_done_2 rfl rfl ?_
  refine xm_E_f q0 ?_
  refine xm_E_s r_X11_done_5 rfl rfl ?_
  refine xm_E_s r_X11_done_6 rfl rfl ?_
  refine xm_E_s r_X11_done_7 rfl rfl ?_
  refine xm_E_t q1 ?_
  refine xm_E_s r_X11_done_13 rfl rfl ?_
  refine xm_E_cs [.int l1] [] r_X11_done_14 rfl rfl rfl (Nat.le_of_ble_eq_true rfl) rfl q2 ?_
  refine xm_E_s r_X11_done_15 rfl rfl ?_
  refine xm_E_s r_X11_done_16 rfl rfl ?_
  refine xm_E_s r_X11_done_17 rfl rfl ?_
  refine xm_E_f q3 ?_
  refine xm_E_s r_X11_done_20 rfl rfl ?_
  refine xm_E_s r_X11_done_21 rfl rfl ?_
  refine xm_E_s (ls1 := [some (.ref l0), some (.int l1), some (.int l2), some (.int (r0 + (-1 : Int32))), none]) r_X11_done_22 rfl rfl ?_
  refine xm_E_s r_X11_done_23 rfl rfl ?_
  refine xm_E_cs [.int l1] [] r_X11_done_24 rfl rfl rfl (Nat.le_of_ble_eq_true rfl) rfl q4 ?_
  refine xm_E_s r_X11_done_25 rfl rfl ?_
  refine xm_E_s r_X11_done_26 rfl (xm_T_gi rfl q5 rfl (Or.inl rfl)) ?_
  refine xm_E_s r_X11_done_27 rfl rfl ?_
  refine xm_E_t q6 ?_
  refine xm_E_s r_X11_done_41 rfl rfl ?_
  refine xm_E_s (ls1 := [some (.ref l0), some (.int l1), some (.int l2), some (.int (r0 + (-1 : Int32))), some (.int (0 : Int32))]) r_X11_done_42 rfl rfl ?_
  refine xm_E_s r_X11_done_43 rfl rfl ?_
  refine xm_E_s r_X11_done_44 rfl rfl ?_
  show xm_E X P d co_X11_done 56 _ _ _ _ _
  refine xm_E_s r_X11_done_56 rfl rfl ?_
  exact xm_E_iret r_X11_done_57 rfl rfl
theorem w_X11_done_0_6 {X : xm_X} {P : List xm_M} {d : Nat} {h : xm_H} {l0 : Nat} {l1 : Int32} {l2 : Int32} {h0 : xm_H} {r0 : Int32} {h1 : xm_H} {r1 : Int32} {h2 : xm_H} {r2 : Int32} {h3 : xm_H} {r3 : Int32} (q0 : ¬ (l2 = (12 : Int32))) (q1 : (10 : Int32) ≤ l2) (q2 : xm_V X P d 228 [.int l1] h (some (.int r0)) h0) (q3 : ¬ (l2 = (10 : Int32))) (q4 : xm_V X P d 224 [.int l1] h0 (some (.int r1)) h1) (q5 : X.1[l0]? = some (.inr 10)) (q6 : ¬ (h1.1 l0 15 < r1)) (q7 : xm_V X P d 225 [.int l1] h1 (some (.int r2)) h2) (q8 : r2 - r2 / (2 : Int32) * (2 : Int32) = (0 : Int32)) (q9 : xm_V X P d 191 [.long ((r0 + (-1 : Int32)).toInt64), .long (-2 : Int64), .long (2 : Int64)] h2 (some (.int r3)) h3) (q10 : r3 = (0 : Int32)) : xm_E X P d co_X11_done 0 [some (.ref l0), some (.int l1), some (.int l2), none, none] [] h (some (.int (-1 : Int32))) h3 := by
  refine xm_E_s r_X11_done_0 rfl rfl ?_
  refine xm_E_s r_X11_done_1 rfl rfl ?_
  refine xm_E_s r_X11_done_2 rfl rfl ?_
  refine xm_E_f q0 ?_
  refine xm_E_s r_X11_done_5 rfl rfl ?_
  refine xm_E_s r_X11_done_6 rfl rfl ?_
  refine xm_E_s r_X11_done_7 rfl rfl ?_
  refine xm_E_t q1 ?_
  refine xm_E_s r_X11_done_13 rfl rfl ?_
  refine xm_E_cs [.int l1] [] r_X11_done_14 rfl rfl rfl (Nat.le_of_ble_eq_true rfl) rfl q2 ?_
  refine xm_E_s r_X11_done_15 rfl rfl ?_
  refine xm_E_s r_X11_done_16 rfl rfl ?_
  refine xm_E_s r_X11_done_17 rfl rfl ?_
  refine xm_E_f q3 ?_
  refine xm_E_s r_X11_done_20 rfl rfl ?_
  refine xm_E_s r_X11_done_21 rfl rfl ?_
  refine xm_E_s (ls1 := [some (.ref l0), some (.int l1), some (.int l2), some (.int (r0 + (-1 : Int32))), none]) r_X11_done_22 rfl rfl ?_
  refine xm_E_s r_X11_done_23 rfl rfl ?_
  refine xm_E_cs [.int l1] [] r_X11_done_24 rfl rfl rfl (Nat.le_of_ble_eq_true rfl) rfl q4 ?_
  refine xm_E_s r_X11_done_25 rfl rfl ?_
  refine xm_E_s r_X11_done_26 rfl (xm_T_gi rfl q5 rfl (Or.inl rfl)) ?_
  refine xm_E_s r_X11_done_27 rfl rfl ?_
  refine xm_E_f q6 ?_
  refine xm_E_s r_X11_done_28 rfl rfl ?_
  refine xm_E_cs [.int l1] [] r_X11_done_29 rfl rfl rfl (Nat.le_of_ble_eq_true rfl) rfl q7 ?_
  refine xm_E_s r_X11_done_30 rfl rfl ?_
  refine xm_E_s r_X11_done_31 rfl (xm_T_irem rfl (by decide)) ?_
  refine xm_E_s r_X11_done_32 rfl rfl ?_
  refine xm_E_t q8 ?_
  refine xm_E_s r_X11_done_33 rfl rfl ?_
  refine xm_E_s r_X11_done_34 rfl rfl ?_
  refine xm_E_s r_X11_done_35 rfl rfl ?_
  refine xm_E_s r_X11_done_36 rfl rfl ?_
  refine xm_E_cs [.long ((r0 + (-1 : Int32)).toInt64), .long (-2 : Int64), .long (2 : Int64)] [] r_X11_done_37 rfl rfl rfl (Nat.le_of_ble_eq_true rfl) rfl q9 ?_
  refine xm_E_s r_X11_done_38 rfl rfl ?_
  refine xm_E_t q10 ?_
  refine xm_E_s r_X11_done_41 rfl rfl ?_
  refine xm_E_s (ls1 := [some (.ref l0), some (.int l1), some (.int l2), some (.int (r0 + (-1 : Int32))), some (.int (0 : Int32))]) r_X11_done_42 rfl rfl ?_
  refine xm_E_s r_X11_done_43 rfl rfl ?_
  refine xm_E_s r_X11_done_44 rfl rfl ?_
  show xm_E X P d co_X11_done 56 _ _ _ _ _
  refine xm_E_s r_X11_done_56 rfl rfl ?_
  exact xm_E_iret r_X11_done_57 rfl rfl
theorem w_X11_done_0_7 {X : xm_X} {P : List xm_M} {d : Nat} {h : xm_H} {l0 : Nat} {l1 : Int32} {l2 : Int32} {h0 : xm_H} {r0 : Int32} {h1 : xm_H} {r1 : Int32} {h2 : xm_H} {r2 : Int32} {h3 : xm_H} {r3 : Int32} {h4 : xm_H} {r4 : Int32} {h5 : xm_H} {r5 : Int32} {h6 : xm_H} {r6 : Int32} {h7 : xm_H} {r7 : Int32} {h8 : xm_H} {r8 : Int32} (q0 : ¬ (l2 = (12 : Int32))) (q1 : (10 : Int32) ≤ l2) (q2 : xm_V X P d 228 [.int l1] h (some (.int r0)) h0) (q3 : ¬ (l2 = (10 : Int32))) (q4 : xm_V X P d 224 [.int l1] h0 (some (.int r1)) h1) (q5 : X.1[l0]? = some (.inr 10)) (q6 : ¬ (h1.1 l0 15 < r1)) (q7 : xm_V X P d 225 [.int l1] h1 (some (.int r2)) h2) (q8 : r2 - r2 / (2 : Int32) * (2 : Int32) = (0 : Int32)) (q9 : xm_V X P d 191 [.long ((r0 + (-1 : Int32)).toInt64), .long (-2 : Int64), .long (2 : Int64)] h2 (some (.int r3)) h3) (q10 : ¬ (r3 = (0 : Int32))) (q11 : xm_V X P d 224 [.int l1] h3 (some (.int r4)) h4) (q12 : xm_V X P d 225 [.int l1] h4 (some (.int r5)) h5) (q13 : xm_V X P d 226 [.int l1] h5 (some (.int r6)) h6) (q14 : xm_V X P d 227 [.int l1] h6 (some (.int r7)) h7) (q15 : xm_V X P d 221 [.int r4, .int r5, .int r6, .int r7, .int (r0 + (-1 : Int32))] h7 (some (.int r8)) h8) : xm_E X P d co_X11_done 0 [some (.ref l0), some (.int l1), some (.int l2), none, none] [] h (some (.int r8)) h8 := by
  refine xm_E_s r_X11_done_0 rfl rfl ?_
  refine xm_E_s r_X11_done_1 rfl rfl ?_
  refine xm_E_s r_X11_done_2 rfl rfl ?_
  refine xm_E_f q0 ?_
  refine xm_E_s r_X11_done_5 rfl rfl ?_
  refine xm_E_s r_X11_done_6 rfl rfl ?_
  refine xm_E_s r_X11_done_7 rfl rfl ?_
  refine xm_E_t q1 ?_
  refine xm_E_s r_X11_done_13 rfl rfl ?_
  refine xm_E_cs [.int l1] [] r_X11_done_14 rfl rfl rfl (Nat.le_of_ble_eq_true rfl) rfl q2 ?_
  refine xm_E_s r_X11_done_15 rfl rfl ?_
  refine xm_E_s r_X11_done_16 rfl rfl ?_
  refine xm_E_s r_X11_done_17 rfl rfl ?_
  refine xm_E_f q3 ?_
  refine xm_E_s r_X11_done_20 rfl rfl ?_
  refine xm_E_s r_X11_done_21 rfl rfl ?_
  refine xm_E_s (ls1 := [some (.ref l0), some (.int l1), some (.int l2), some (.int (r0 + (-1 : Int32))), none]) r_X11_done_22 rfl rfl ?_
  refine xm_E_s r_X11_done_23 rfl rfl ?_
  refine xm_E_cs [.int l1] [] r_X11_done_24 rfl rfl rfl (Nat.le_of_ble_eq_true rfl) rfl q4 ?_
  refine xm_E_s r_X11_done_25 rfl rfl ?_
  refine xm_E_s r_X11_done_26 rfl (xm_T_gi rfl q5 rfl (Or.inl rfl)) ?_
  refine xm_E_s r_X11_done_27 rfl rfl ?_
  refine xm_E_f q6 ?_
  refine xm_E_s r_X11_done_28 rfl rfl ?_
  refine xm_E_cs [.int l1] [] r_X11_done_29 rfl rfl rfl (Nat.le_of_ble_eq_true rfl) rfl q7 ?_
  refine xm_E_s r_X11_done_30 rfl rfl ?_
  refine xm_E_s r_X11_done_31 rfl (xm_T_irem rfl (by decide)) ?_
  refine xm_E_s r_X11_done_32 rfl rfl ?_
  refine xm_E_t q8 ?_
  refine xm_E_s r_X11_done_33 rfl rfl ?_
  refine xm_E_s r_X11_done_34 rfl rfl ?_
  refine xm_E_s r_X11_done_35 rfl rfl ?_
  refine xm_E_s r_X11_done_36 rfl rfl ?_
  refine xm_E_cs [.long ((r0 + (-1 : Int32)).toInt64), .long (-2 : Int64), .long (2 : Int64)] [] r_X11_done_37 rfl rfl rfl (Nat.le_of_ble_eq_true rfl) rfl q9 ?_
  refine xm_E_s r_X11_done_38 rfl rfl ?_
  refine xm_E_f q10 ?_
  refine xm_E_s r_X11_done_39 rfl rfl ?_
  refine xm_E_s r_X11_done_40 rfl rfl ?_
  refine xm_E_s (ls1 := [some (.ref l0), some (.int l1), some (.int l2), some (.int (r0 + (-1 : Int32))), some (.int (1 : Int32))]) r_X11_done_42 rfl rfl ?_
  refine xm_E_s r_X11_done_43 rfl rfl ?_
  refine xm_E_s r_X11_done_44 rfl rfl ?_
  show xm_E X P d co_X11_done 45 _ _ _ _ _
  refine xm_E_s r_X11_done_45 rfl rfl ?_
  refine xm_E_cs [.int l1] [] r_X11_done_46 rfl rfl rfl (Nat.le_of_ble_eq_true rfl) rfl q11 ?_
  refine xm_E_s r_X11_done_47 rfl rfl ?_
  refine xm_E_cs [.int l1] [.int r4] r_X11_done_48 rfl rfl rfl (Nat.le_of_ble_eq_true rfl) rfl q12 ?_
  refine xm_E_s r_X11_done_49 rfl rfl ?_
  refine xm_E_cs [.int l1] [.int r5, .int r4] r_X11_done_50 rfl rfl rfl (Nat.le_of_ble_eq_true rfl) rfl q13 ?_
  refine xm_E_s r_X11_done_51 rfl rfl ?_
  refine xm_E_cs [.int l1] [.int r6, .int r5, .int r4] r_X11_done_52 rfl rfl rfl (Nat.le_of_ble_eq_true rfl) rfl q14 ?_
  refine xm_E_s r_X11_done_53 rfl rfl ?_
  refine xm_E_cs [.int r4, .int r5, .int r6, .int r7, .int (r0 + (-1 : Int32))] [] r_X11_done_54 rfl rfl rfl (Nat.le_of_ble_eq_true rfl) rfl q15 ?_
  refine xm_E_s r_X11_done_55 rfl rfl ?_
  exact xm_E_iret r_X11_done_57 rfl rfl
theorem w_X11_done_0_8 {X : xm_X} {P : List xm_M} {d : Nat} {h : xm_H} {l0 : Nat} {l1 : Int32} {l2 : Int32} {h0 : xm_H} {r0 : Int32} {h1 : xm_H} {r1 : Int32} {h2 : xm_H} {r2 : Int32} (q0 : ¬ (l2 = (12 : Int32))) (q1 : (10 : Int32) ≤ l2) (q2 : xm_V X P d 228 [.int l1] h (some (.int r0)) h0) (q3 : ¬ (l2 = (10 : Int32))) (q4 : xm_V X P d 224 [.int l1] h0 (some (.int r1)) h1) (q5 : X.1[l0]? = some (.inr 10)) (q6 : ¬ (h1.1 l0 15 < r1)) (q7 : xm_V X P d 225 [.int l1] h1 (some (.int r2)) h2) (q8 : ¬ (r2 - r2 / (2 : Int32) * (2 : Int32) = (0 : Int32))) : xm_E X P d co_X11_done 0 [some (.ref l0), some (.int l1), some (.int l2), none, none] [] h (some (.int (-1 : Int32))) h2 := by
  refine xm_E_s r_X11_done_0 rfl rfl ?_
  refine xm_E_s r_X11_done_1 rfl rfl ?_
  refine xm_E_s r_X11_done_2 rfl rfl ?_
  refine xm_E_f q0 ?_
  refine xm_E_s r_X11_done_5 rfl rfl ?_
  refine xm_E_s r_X11_done_6 rfl rfl ?_
  refine xm_E_s r_X11_done_7 rfl rfl ?_
  refine xm_E_t q1 ?_
  refine xm_E_s r_X11_done_13 rfl rfl ?_
  refine xm_E_cs [.int l1] [] r_X11_done_14 rfl rfl rfl (Nat.le_of_ble_eq_true rfl) rfl q2 ?_
  refine xm_E_s r_X11_done_15 rfl rfl ?_
  refine xm_E_s r_X11_done_16 rfl rfl ?_
  refine xm_E_s r_X11_done_17 rfl rfl ?_
  refine xm_E_f q3 ?_
  refine xm_E_s r_X11_done_20 rfl rfl ?_
  refine xm_E_s r_X11_done_21 rfl rfl ?_
  refine xm_E_s (ls1 := [some (.ref l0), some (.int l1), some (.int l2), some (.int (r0 + (-1 : Int32))), none]) r_X11_done_22 rfl rfl ?_
  refine xm_E_s r_X11_done_23 rfl rfl ?_
  refine xm_E_cs [.int l1] [] r_X11_done_24 rfl rfl rfl (Nat.le_of_ble_eq_true rfl) rfl q4 ?_
  refine xm_E_s r_X11_done_25 rfl rfl ?_
  refine xm_E_s r_X11_done_26 rfl (xm_T_gi rfl q5 rfl (Or.inl rfl)) ?_
  refine xm_E_s r_X11_done_27 rfl rfl ?_
  refine xm_E_f q6 ?_
  refine xm_E_s r_X11_done_28 rfl rfl ?_
  refine xm_E_cs [.int l1] [] r_X11_done_29 rfl rfl rfl (Nat.le_of_ble_eq_true rfl) rfl q7 ?_
  refine xm_E_s r_X11_done_30 rfl rfl ?_
  refine xm_E_s r_X11_done_31 rfl (xm_T_irem rfl (by decide)) ?_
  refine xm_E_s r_X11_done_32 rfl rfl ?_
  refine xm_E_f q8 ?_
  refine xm_E_s r_X11_done_41 rfl rfl ?_
  refine xm_E_s (ls1 := [some (.ref l0), some (.int l1), some (.int l2), some (.int (r0 + (-1 : Int32))), some (.int (0 : Int32))]) r_X11_done_42 rfl rfl ?_
  refine xm_E_s r_X11_done_43 rfl rfl ?_
  refine xm_E_s r_X11_done_44 rfl rfl ?_
  show xm_E X P d co_X11_done 56 _ _ _ _ _
  refine xm_E_s r_X11_done_56 rfl rfl ?_
  exact xm_E_iret r_X11_done_57 rfl rfl
theorem w_X11_done_0_9 {X : xm_X} {P : List xm_M} {d : Nat} {h : xm_H} {l0 : Nat} {l1 : Int32} {l2 : Int32} {h0 : xm_H} {r0 : Int32} (q0 : ¬ (l2 = (12 : Int32))) (q1 : ¬ ((10 : Int32) ≤ l2)) (q2 : xm_V X P d 223 [.ref l0, .int l1, .int l2] h (some (.int r0)) h0) (q3 : X.1[l0]? = some (.inr 10)) : xm_E X P d co_X11_done 0 [some (.ref l0), some (.int l1), some (.int l2), none, none] [] h (some (.int r0)) h0 := by
  refine xm_E_s r_X11_done_0 rfl rfl ?_
  refine xm_E_s r_X11_done_1 rfl rfl ?_
  refine xm_E_s r_X11_done_2 rfl rfl ?_
  refine xm_E_f q0 ?_
  refine xm_E_s r_X11_done_5 rfl rfl ?_
  refine xm_E_s r_X11_done_6 rfl rfl ?_
  refine xm_E_s r_X11_done_7 rfl rfl ?_
  refine xm_E_f q1 ?_
  refine xm_E_s r_X11_done_8 rfl rfl ?_
  refine xm_E_s r_X11_done_9 rfl rfl ?_
  refine xm_E_s r_X11_done_10 rfl rfl ?_
  refine xm_E_cv [.ref l0, .int l1, .int l2] [] r_X11_done_11 rfl rfl (Nat.le_of_ble_eq_true rfl) (xm_rc q3 (by decide)) rfl q2 ?_
  exact xm_E_iret r_X11_done_12 rfl rfl
def F_X11_done (h : xm_H) (t : Nat) (l1 : Int32) (l2 : Int32) : Int32 := if l2 = (12 : Int32) then l1 else (if (10 : Int32) ≤ l2 then (if l2 = (10 : Int32) then (if h.1 82 15 < (F_X11_longOf l1) then (-1 : Int32) else (if (F_X11_wideOf l1) - (F_X11_wideOf l1) / (2 : Int32) * (2 : Int32) = (0 : Int32) then (if (F_X11_in (((F_X11_twistOf l1) + (1 : Int32)).toInt64) (-2 : Int64) (2 : Int64)) = (0 : Int32) then (-1 : Int32) else (F_X11_state (F_X11_longOf l1) (F_X11_wideOf l1) (F_X11_hemOf l1) (F_X11_faceOf l1) ((F_X11_twistOf l1) + (1 : Int32)))) else (-1 : Int32))) else (if h.1 82 15 < (F_X11_longOf l1) then (-1 : Int32) else (if (F_X11_wideOf l1) - (F_X11_wideOf l1) / (2 : Int32) * (2 : Int32) = (0 : Int32) then (if (F_X11_in (((F_X11_twistOf l1) + (-1 : Int32)).toInt64) (-2 : Int64) (2 : Int64)) = (0 : Int32) then (-1 : Int32) else (F_X11_state (F_X11_longOf l1) (F_X11_wideOf l1) (F_X11_hemOf l1) (F_X11_faceOf l1) ((F_X11_twistOf l1) + (-1 : Int32)))) else (-1 : Int32)))) else (F_X11_moved h t l1 l2))
theorem f_X11_done {L : Nat} {xs : Nat → Int32} {d : Nat} {h : xm_H} {t : Nat} (hR : h.2.2 = xm_R0 t) (ht : t = 5 ∨ t = 13) {l1 : Int32} {l2 : Int32} : xm_V (xm_X0 L xs) xm_P (d + 4) 222 [.ref 82, .int l1, .int l2] h (some (.int (F_X11_done h t l1 l2))) h := by
  unfold F_X11_done
  by_cases c0 : l2 = (12 : Int32)
  · rw [if_pos c0]
    exact v_X11_done (w_X11_done_0_0 c0)
  · rw [if_neg c0]
    by_cases c1 : (10 : Int32) ≤ l2
    · rw [if_pos c1]
      by_cases c2 : l2 = (10 : Int32)
      · rw [if_pos c2]
        by_cases c3 : h.1 82 15 < (F_X11_longOf l1)
        · rw [if_pos c3]
          exact v_X11_done (w_X11_done_0_1 c0 c1 (f_X11_twistOf (d := d + 2)) c2 (f_X11_longOf (d := d + 2)) xs_82 c3)
        · rw [if_neg c3]
          by_cases c4 : (F_X11_wideOf l1) - (F_X11_wideOf l1) / (2 : Int32) * (2 : Int32) = (0 : Int32)
          · rw [if_pos c4]
            by_cases c5 : (F_X11_in (((F_X11_twistOf l1) + (1 : Int32)).toInt64) (-2 : Int64) (2 : Int64)) = (0 : Int32)
            · rw [if_pos c5]
              exact v_X11_done (w_X11_done_0_2 c0 c1 (f_X11_twistOf (d := d + 2)) c2 (f_X11_longOf (d := d + 2)) xs_82 c3 (f_X11_wideOf (d := d + 2)) c4 (f_X11_in (d := d + 2)) c5)
            · rw [if_neg c5]
              exact v_X11_done (w_X11_done_0_3 c0 c1 (f_X11_twistOf (d := d + 2)) c2 (f_X11_longOf (d := d + 2)) xs_82 c3 (f_X11_wideOf (d := d + 2)) c4 (f_X11_in (d := d + 2)) c5 (f_X11_longOf (d := d + 2)) (f_X11_wideOf (d := d + 2)) (f_X11_hemOf (d := d + 2)) (f_X11_faceOf (d := d + 2)) (f_X11_state (d := d + 2)))
          · rw [if_neg c4]
            exact v_X11_done (w_X11_done_0_4 c0 c1 (f_X11_twistOf (d := d + 2)) c2 (f_X11_longOf (d := d + 2)) xs_82 c3 (f_X11_wideOf (d := d + 2)) c4)
      · rw [if_neg c2]
        by_cases c6 : h.1 82 15 < (F_X11_longOf l1)
        · rw [if_pos c6]
          exact v_X11_done (w_X11_done_0_5 c0 c1 (f_X11_twistOf (d := d + 2)) c2 (f_X11_longOf (d := d + 2)) xs_82 c6)
        · rw [if_neg c6]
          by_cases c7 : (F_X11_wideOf l1) - (F_X11_wideOf l1) / (2 : Int32) * (2 : Int32) = (0 : Int32)
          · rw [if_pos c7]
            by_cases c8 : (F_X11_in (((F_X11_twistOf l1) + (-1 : Int32)).toInt64) (-2 : Int64) (2 : Int64)) = (0 : Int32)
            · rw [if_pos c8]
              exact v_X11_done (w_X11_done_0_6 c0 c1 (f_X11_twistOf (d := d + 2)) c2 (f_X11_longOf (d := d + 2)) xs_82 c6 (f_X11_wideOf (d := d + 2)) c7 (f_X11_in (d := d + 2)) c8)
            · rw [if_neg c8]
              exact v_X11_done (w_X11_done_0_7 c0 c1 (f_X11_twistOf (d := d + 2)) c2 (f_X11_longOf (d := d + 2)) xs_82 c6 (f_X11_wideOf (d := d + 2)) c7 (f_X11_in (d := d + 2)) c8 (f_X11_longOf (d := d + 2)) (f_X11_wideOf (d := d + 2)) (f_X11_hemOf (d := d + 2)) (f_X11_faceOf (d := d + 2)) (f_X11_state (d := d + 2)))
          · rw [if_neg c7]
            exact v_X11_done (w_X11_done_0_8 c0 c1 (f_X11_twistOf (d := d + 2)) c2 (f_X11_longOf (d := d + 2)) xs_82 c6 (f_X11_wideOf (d := d + 2)) c7)
    · rw [if_neg c1]
      exact v_X11_done (w_X11_done_0_9 c0 c1 (f_X11_moved (d := d + 0) hR ht) xs_82)
def F_X10_state (h : xm_H) (t : Nat) (l1 : Int32) : Int32 := if (F_X9_isNone h t) = (0 : Int32) then (F_X10_viewOf h t (h.1 3 3) (h.1 3 4) l1) else (-100 : Int32)
theorem f_X10_state {L : Nat} {xs : Nat → Int32} {d : Nat} {h : xm_H} {t : Nat} (hR : h.2.2 = xm_R0 t) (ht : t = 5 ∨ t = 13) {l1 : Int32} (g0 : ((F_X9_isNone h t) = (0 : Int32)) → (l1 = (5 : Int32)) → ((0 : Int32) < (F_X5_longOf (h.1 3 3)) * (F_X5_wideOf (h.1 3 3))) → ¬ ((F_X5_longOf (h.1 3 3)) * (F_X5_wideOf (h.1 3 3))) = 0) (g1 : ((F_X9_isNone h t) = (0 : Int32)) → (l1 = (6 : Int32)) → ((0 : Int32) < (F_X5_longOf (h.1 3 3)) * (F_X5_wideOf (h.1 3 3))) → ¬ ((F_X5_longOf (h.1 3 3)) * (F_X5_wideOf (h.1 3 3))) = 0) : xm_V (xm_X0 L xs) xm_P (d + 5) 35 [.ref 0, .int l1] h (some (.int (F_X10_state h t l1))) h := by
  unfold F_X10_state
  by_cases c0 : (F_X9_isNone h t) = (0 : Int32)
  · rw [if_pos c0]
    exact v_X10_state (p_X10_state_0_0 xs_0 (rr_l0_1 hR) (f_X9_isNone (d := d + 3) hR ht) xs_3 c0 (rr_l0_1 hR) xs_3 (f_X10_viewOf (d := d + 0) hR ht (g0 c0) (g1 c0)))
  · rw [if_neg c0]
    exact v_X10_state (p_X10_state_0_1 xs_0 (rr_l0_1 hR) (f_X9_isNone (d := d + 3) hR ht) xs_3 c0)
def F_X11_chosen (h : xm_H) (t : Nat) (l1 : Int32) (l2 : Int32) : Int32 := if h.1 82 24 = (-1 : Int32) then (F_X11_moved h t l1 l2) else (if l2 = (6 : Int32) then (F_X11_moved h t l1 (9 : Int32)) else (if ((h.1 82 24) >>> (l2 &&& 31)) &&& (1 : Int32) = (0 : Int32) then (-1 : Int32) else (F_X11_done h t l1 (F_X11_meaning (F_X11_her h t l2) (F_X11_his h t l2)))))
theorem f_X11_chosen {L : Nat} {xs : Nat → Int32} {d : Nat} {h : xm_H} {t : Nat} (hR : h.2.2 = xm_R0 t) (ht : t = 5 ∨ t = 13) {l1 : Int32} {l2 : Int32} (g0 : (¬ (h.1 82 24 = (-1 : Int32))) → (¬ (l2 = (6 : Int32))) → (¬ (((h.1 82 24) >>> (l2 &&& 31)) &&& (1 : Int32) = (0 : Int32))) → ¬ ((24 : Int32) + ((2 : Int32) * l2) < 0 ∨ 110 ≤ ((24 : Int32) + ((2 : Int32) * l2)).toNatClampNeg)) (g1 : (¬ (h.1 82 24 = (-1 : Int32))) → (¬ (l2 = (6 : Int32))) → (¬ (((h.1 82 24) >>> (l2 &&& 31)) &&& (1 : Int32) = (0 : Int32))) → ¬ (((24 : Int32) + ((2 : Int32) * l2)) + (1 : Int32) < 0 ∨ 110 ≤ (((24 : Int32) + ((2 : Int32) * l2)) + (1 : Int32)).toNatClampNeg)) : xm_V (xm_X0 L xs) xm_P (d + 5) 263 [.ref 82, .int l1, .int l2] h (some (.int (F_X11_chosen h t l1 l2))) h := by
  unfold F_X11_chosen
  by_cases c0 : h.1 82 24 = (-1 : Int32)
  · rw [if_pos c0]
    exact v_X11_chosen (p_X11_chosen_0_0 xs_82 c0 (f_X11_moved (d := d + 1) hR ht))
  · rw [if_neg c0]
    by_cases c1 : l2 = (6 : Int32)
    · rw [if_pos c1]
      exact v_X11_chosen (p_X11_chosen_0_1 xs_82 c0 c1 (f_X11_moved (d := d + 1) hR ht))
    · rw [if_neg c1]
      by_cases c2 : ((h.1 82 24) >>> (l2 &&& 31)) &&& (1 : Int32) = (0 : Int32)
      · rw [if_pos c2]
        exact v_X11_chosen (p_X11_chosen_0_2 xs_82 c0 c1 c2)
      · rw [if_neg c2]
        exact v_X11_chosen (p_X11_chosen_0_3 xs_82 c0 c1 c2 (f_X11_her (d := d + 3) hR ht (g0 c0 c1 c2)) (f_X11_his (d := d + 3) hR ht (g1 c0 c1 c2)) (f_X11_meaning (d := d + 3)) (f_X11_done (d := d + 0) hR ht))
def F_X11_leadsBy (h : xm_H) (t : Nat) (l1 : Int32) (l2 : Int32) : Int32 := if (F_X11_chosen h t l1 l2) = (-1 : Int32) then (0 : Int32) else (if h.1 89 (F_X11_chosen h t l1 l2).toNatClampNeg = (h.1 89 l1.toNatClampNeg) + (F_X11_costOf h t l2) then (if h.1 90 (F_X11_chosen h t l1 l2).toNatClampNeg = (0 : Int32) then (0 : Int32) else (1 : Int32)) else (0 : Int32))
theorem f_X11_leadsBy {L : Nat} {xs : Nat → Int32} {d : Nat} {h : xm_H} {t : Nat} (hR : h.2.2 = xm_R0 t) (ht : t = 5 ∨ t = 13) {l1 : Int32} {l2 : Int32} (g0 : (¬ (h.1 82 24 = (-1 : Int32))) → (¬ (l2 = (6 : Int32))) → (¬ (((h.1 82 24) >>> (l2 &&& 31)) &&& (1 : Int32) = (0 : Int32))) → ¬ ((24 : Int32) + ((2 : Int32) * l2) < 0 ∨ 110 ≤ ((24 : Int32) + ((2 : Int32) * l2)).toNatClampNeg)) (g1 : (¬ (h.1 82 24 = (-1 : Int32))) → (¬ (l2 = (6 : Int32))) → (¬ (((h.1 82 24) >>> (l2 &&& 31)) &&& (1 : Int32) = (0 : Int32))) → ¬ (((24 : Int32) + ((2 : Int32) * l2)) + (1 : Int32) < 0 ∨ 110 ≤ (((24 : Int32) + ((2 : Int32) * l2)) + (1 : Int32)).toNatClampNeg)) (g2 : (¬ ((F_X11_chosen h t l1 l2) = (-1 : Int32))) → ¬ ((F_X11_chosen h t l1 l2) < 0 ∨ 120050 ≤ (F_X11_chosen h t l1 l2).toNatClampNeg)) (g3 : (¬ ((F_X11_chosen h t l1 l2) = (-1 : Int32))) → ¬ (l1 < 0 ∨ 120050 ≤ l1.toNatClampNeg)) (g4 : (¬ ((F_X11_chosen h t l1 l2) = (-1 : Int32))) → (¬ (h.1 82 25 = (0 : Int32))) → ¬ ((5 : Int32) + (F_X11_movingOf l2) < 0 ∨ 110 ≤ ((5 : Int32) + (F_X11_movingOf l2)).toNatClampNeg)) (g5 : (¬ ((F_X11_chosen h t l1 l2) = (-1 : Int32))) → (h.1 89 (F_X11_chosen h t l1 l2).toNatClampNeg = (h.1 89 l1.toNatClampNeg) + (F_X11_costOf h t l2)) → ¬ ((F_X11_chosen h t l1 l2) < 0 ∨ 120050 ≤ (F_X11_chosen h t l1 l2).toNatClampNeg)) : xm_V (xm_X0 L xs) xm_P (d + 6) 271 [.ref 82, .int l1, .int l2] h (some (.int (F_X11_leadsBy h t l1 l2))) h := by
  unfold F_X11_leadsBy
  by_cases c0 : (F_X11_chosen h t l1 l2) = (-1 : Int32)
  · rw [if_pos c0]
    exact v_X11_leadsBy (p_X11_leadsBy_0_0 (f_X11_chosen (d := d + 0) hR ht (g0) (g1)) xs_82 c0)
  · rw [if_neg c0]
    by_cases c1 : h.1 89 (F_X11_chosen h t l1 l2).toNatClampNeg = (h.1 89 l1.toNatClampNeg) + (F_X11_costOf h t l2)
    · rw [if_pos c1]
      by_cases c2 : h.1 90 (F_X11_chosen h t l1 l2).toNatClampNeg = (0 : Int32)
      · rw [if_pos c2]
        exact v_X11_leadsBy (p_X11_leadsBy_0_1 (f_X11_chosen (d := d + 0) hR ht (g0) (g1)) xs_82 c0 (rr_l82_20 hR) xs_89 (g2 c0) (g3 c0) (f_X11_costOf (d := d + 2) hR ht (g4 c0)) c1 (rr_l82_21 hR) xs_90 (g5 c0 c1) (by decide) c2)
      · rw [if_neg c2]
        exact v_X11_leadsBy (p_X11_leadsBy_0_2 (f_X11_chosen (d := d + 0) hR ht (g0) (g1)) xs_82 c0 (rr_l82_20 hR) xs_89 (g2 c0) (g3 c0) (f_X11_costOf (d := d + 2) hR ht (g4 c0)) c1 (rr_l82_21 hR) xs_90 (g5 c0 c1) (by decide) c2)
    · rw [if_neg c1]
      exact v_X11_leadsBy (p_X11_leadsBy_0_3 (f_X11_chosen (d := d + 0) hR ht (g0) (g1)) xs_82 c0 (rr_l82_20 hR) xs_89 (g2 c0) (g3 c0) (f_X11_costOf (d := d + 2) hR ht (g4 c0)) c1)
