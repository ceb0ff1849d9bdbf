/-! Ways through methods, printed by wip/gen/paths.py -/
section XMPA
theorem r_X10_feed_0 : co_X10_feed[0]? = some ((0, .aload_n 0, 0, 0, 0, 0, 0, 0, []) : xm_I) := rfl
theorem r_X10_feed_1 : co_X10_feed[1]? = some ((1, .getfield 10, 481, 9, 0, 2, 0, 0, []) : xm_I) := rfl
theorem r_X10_feed_2 : co_X10_feed[2]? = some ((4, .invokevirtual 69, 513, 1, 1, 5, 0, 0, []) : xm_I) := rfl
theorem r_X10_feed_3 : co_X10_feed[3]? = some ((7, .ifCond .ne 5, 0, 0, 6, 0, 0, 0, []) : xm_I) := rfl
theorem r_X10_feed_4 : co_X10_feed[4]? = some ((10, .iconst (-1), 0, 0, 0, 0, (-1), 0, []) : xm_I) := rfl
theorem r_X10_feed_5 : co_X10_feed[5]? = some ((11, .ireturn, 0, 0, 0, 0, 0, 0, []) : xm_I) := rfl
theorem r_X10_feed_6 : co_X10_feed[6]? = some ((12, .aload_n 0, 0, 0, 0, 0, 0, 0, []) : xm_I) := rfl
theorem r_X10_feed_7 : co_X10_feed[7]? = some ((13, .getfield 10, 481, 9, 0, 2, 0, 0, []) : xm_I) := rfl
theorem r_X10_feed_8 : co_X10_feed[8]? = some ((16, .iload_n 1, 0, 0, 0, 0, 0, 0, []) : xm_I) := rfl
theorem r_X10_feed_9 : co_X10_feed[9]? = some ((17, .invokevirtual 73, 517, 2, 2, 5, 0, 0, []) : xm_I) := rfl
theorem r_X10_feed_10 : co_X10_feed[10]? = some ((20, .aload_n 0, 0, 0, 0, 0, 0, 0, []) : xm_I) := rfl
theorem r_X10_feed_11 : co_X10_feed[11]? = some ((21, .getfield 10, 481, 9, 0, 2, 0, 0, []) : xm_I) := rfl
theorem r_X10_feed_12 : co_X10_feed[12]? = some ((24, .iload_n 2, 0, 0, 0, 0, 0, 0, []) : xm_I) := rfl
theorem r_X10_feed_13 : co_X10_feed[13]? = some ((25, .invokevirtual 73, 517, 2, 2, 5, 0, 0, []) : xm_I) := rfl
theorem r_X10_feed_14 : co_X10_feed[14]? = some ((28, .aload_n 0, 0, 0, 0, 0, 0, 0, []) : xm_I) := rfl
theorem r_X10_feed_15 : co_X10_feed[15]? = some ((29, .getfield 10, 481, 9, 0, 2, 0, 0, []) : xm_I) := rfl
theorem r_X10_feed_16 : co_X10_feed[16]? = some ((32, .iload_n 3, 0, 0, 0, 0, 0, 0, []) : xm_I) := rfl
theorem r_X10_feed_17 : co_X10_feed[17]? = some ((33, .invokevirtual 73, 517, 2, 2, 5, 0, 0, []) : xm_I) := rfl
theorem r_X10_feed_18 : co_X10_feed[18]? = some ((36, .aload_n 0, 0, 0, 0, 0, 0, 0, []) : xm_I) := rfl
theorem r_X10_feed_19 : co_X10_feed[19]? = some ((37, .getfield 10, 481, 9, 0, 2, 0, 0, []) : xm_I) := rfl
theorem r_X10_feed_20 : co_X10_feed[20]? = some ((40, .iload 4, 0, 0, 0, 0, 0, 0, []) : xm_I) := rfl
theorem r_X10_feed_21 : co_X10_feed[21]? = some ((42, .invokevirtual 73, 517, 2, 2, 5, 0, 0, []) : xm_I) := rfl
theorem r_X10_feed_22 : co_X10_feed[22]? = some ((45, .aload_n 0, 0, 0, 0, 0, 0, 0, []) : xm_I) := rfl
theorem r_X10_feed_23 : co_X10_feed[23]? = some ((46, .getfield 10, 481, 9, 0, 2, 0, 0, []) : xm_I) := rfl
theorem r_X10_feed_24 : co_X10_feed[24]? = some ((49, .iload 5, 0, 0, 0, 0, 0, 0, []) : xm_I) := rfl
theorem r_X10_feed_25 : co_X10_feed[25]? = some ((51, .invokevirtual 73, 517, 2, 2, 5, 0, 0, []) : xm_I) := rfl
theorem r_X10_feed_26 : co_X10_feed[26]? = some ((54, .aload_n 0, 0, 0, 0, 0, 0, 0, []) : xm_I) := rfl
theorem r_X10_feed_27 : co_X10_feed[27]? = some ((55, .getfield 10, 481, 9, 0, 2, 0, 0, []) : xm_I) := rfl
theorem r_X10_feed_28 : co_X10_feed[28]? = some ((58, .getfield 77, 146, 5, 1, 0, 0, 0, []) : xm_I) := rfl
theorem r_X10_feed_29 : co_X10_feed[29]? = some ((61, .ireturn, 0, 0, 0, 0, 0, 0, []) : xm_I) := rfl
theorem p_X10_feed_0_0 {X : xm_X} {P : List xm_M} {d : Nat} {h : xm_H} {l0 : Nat} {l1 : Int32} {l2 : Int32} {l3 : Int32} {l4 : Int32} {l5 : Int32} {v0 : Nat} {h1 : xm_H} {r1 : Int32} (q0 : X.1[l0]? = some (.inr 9)) (q1 : h.2.2 l0 0 = some v0) (q2 : xm_V X P d 1 [.ref v0] h (some (.int r1)) h1) (q3 : X.1[v0]? = some (.inr 5)) (q4 : r1 = (0 : Int32)) : xm_E X P d co_X10_feed 0 [some (.ref l0), some (.int l1), some (.int l2), some (.int l3), some (.int l4), some (.int l5)] [] h (some (.int (-1 : Int32))) h1 := by
  refine xm_E_s r_X10_feed_0 rfl rfl ?_
  refine xm_E_s r_X10_feed_1 rfl (xm_T_gr rfl q0 rfl rfl q1) ?_
  refine xm_E_cv [.ref v0] [] r_X10_feed_2 rfl rfl (Nat.le_of_ble_eq_true rfl) (xm_rc q3 (by decide)) rfl q2 ?_
  refine xm_E_s r_X10_feed_3 rfl rfl ?_
  refine xm_E_t q4 ?_
  refine xm_E_s r_X10_feed_4 rfl rfl ?_
  exact xm_E_iret r_X10_feed_5 rfl rfl
theorem p_X10_feed_0_1 {X : xm_X} {P : List xm_M} {d : Nat} {h : xm_H} {l0 : Nat} {l1 : Int32} {l2 : Int32} {l3 : Int32} {l4 : Int32} {l5 : Int32} {v0 : Nat} {h1 : xm_H} {r1 : Int32} {v2 : Nat} {h3 : xm_H} {v4 : Nat} {h5 : xm_H} {v6 : Nat} {h7 : xm_H} {v8 : Nat} {h9 : xm_H} {v10 : Nat} {h11 : xm_H} {v12 : Nat} (q0 : X.1[l0]? = some (.inr 9)) (q1 : h.2.2 l0 0 = some v0) (q2 : xm_V X P d 1 [.ref v0] h (some (.int r1)) h1) (q3 : X.1[v0]? = some (.inr 5)) (q4 : ¬ (r1 = (0 : Int32))) (q5 : h1.2.2 l0 0 = some v2) (q6 : xm_V X P d 2 [.ref v2, .int l1] h1 none h3) (q7 : X.1[v2]? = some (.inr 5)) (q8 : h3.2.2 l0 0 = some v4) (q9 : xm_V X P d 2 [.ref v4, .int l2] h3 none h5) (q10 : X.1[v4]? = some (.inr 5)) (q11 : h5.2.2 l0 0 = some v6) (q12 : xm_V X P d 2 [.ref v6, .int l3] h5 none h7) (q13 : X.1[v6]? = some (.inr 5)) (q14 : h7.2.2 l0 0 = some v8) (q15 : xm_V X P d 2 [.ref v8, .int l4] h7 none h9) (q16 : X.1[v8]? = some (.inr 5)) (q17 : h9.2.2 l0 0 = some v10) (q18 : xm_V X P d 2 [.ref v10, .int l5] h9 none h11) (q19 : X.1[v10]? = some (.inr 5)) (q20 : h11.2.2 l0 0 = some v12) (q21 : X.1[v12]? = some (.inr 5)) : xm_E X P d co_X10_feed 0 [some (.ref l0), some (.int l1), some (.int l2), some (.int l3), some (.int l4), some (.int l5)] [] h (some (.int (h11.1 v12 1))) h11 := by
  refine xm_E_s r_X10_feed_0 rfl rfl ?_
  refine xm_E_s r_X10_feed_1 rfl (xm_T_gr rfl q0 rfl rfl q1) ?_
  refine xm_E_cv [.ref v0] [] r_X10_feed_2 rfl rfl (Nat.le_of_ble_eq_true rfl) (xm_rc q3 (by decide)) rfl q2 ?_
  refine xm_E_s r_X10_feed_3 rfl rfl ?_
  refine xm_E_f q4 ?_
  refine xm_E_s r_X10_feed_6 rfl rfl ?_
  refine xm_E_s r_X10_feed_7 rfl (xm_T_gr rfl q0 rfl rfl q5) ?_
  refine xm_E_s r_X10_feed_8 rfl rfl ?_
  refine xm_E_cv [.ref v2, .int l1] [] r_X10_feed_9 rfl rfl (Nat.le_of_ble_eq_true rfl) (xm_rc q7 (by decide)) rfl q6 ?_
  refine xm_E_s r_X10_feed_10 rfl rfl ?_
  refine xm_E_s r_X10_feed_11 rfl (xm_T_gr rfl q0 rfl rfl q8) ?_
  refine xm_E_s r_X10_feed_12 rfl rfl ?_
  refine xm_E_cv [.ref v4, .int l2] [] r_X10_feed_13 rfl rfl (Nat.le_of_ble_eq_true rfl) (xm_rc q10 (by decide)) rfl q9 ?_
  refine xm_E_s r_X10_feed_14 rfl rfl ?_
  refine xm_E_s r_X10_feed_15 rfl (xm_T_gr rfl q0 rfl rfl q11) ?_
  refine xm_E_s r_X10_feed_16 rfl rfl ?_
  refine xm_E_cv [.ref v6, .int l3] [] r_X10_feed_17 rfl rfl (Nat.le_of_ble_eq_true rfl) (xm_rc q13 (by decide)) rfl q12 ?_
  refine xm_E_s r_X10_feed_18 rfl rfl ?_
  refine xm_E_s r_X10_feed_19 rfl (xm_T_gr rfl q0 rfl rfl q14) ?_
  refine xm_E_s r_X10_feed_20 rfl rfl ?_
  refine xm_E_cv [.ref v8, .int l4] [] r_X10_feed_21 rfl rfl (Nat.le_of_ble_eq_true rfl) (xm_rc q16 (by decide)) rfl q15 ?_
  refine xm_E_s r_X10_feed_22 rfl rfl ?_
  refine xm_E_s r_X10_feed_23 rfl (xm_T_gr rfl q0 rfl rfl q17) ?_
  refine xm_E_s r_X10_feed_24 rfl rfl ?_
  refine xm_E_cv [.ref v10, .int l5] [] r_X10_feed_25 rfl rfl (Nat.le_of_ble_eq_true rfl) (xm_rc q19 (by decide)) rfl q18 ?_
  refine xm_E_s r_X10_feed_26 rfl rfl ?_
  refine xm_E_s r_X10_feed_27 rfl (xm_T_gr rfl q0 rfl rfl q20) ?_
  refine xm_E_s r_X10_feed_28 rfl (xm_T_gi rfl q21 rfl (Or.inl rfl)) ?_
  exact xm_E_iret r_X10_feed_29 rfl rfl
theorem r_X10_end_0 : co_X10_end[0]? = some ((0, .iload_n 1, 0, 0, 0, 0, 0, 0, []) : xm_I) := rfl
theorem r_X10_end_1 : co_X10_end[1]? = some ((1, .ifCond .lt 14, 0, 0, 7, 0, 0, 0, []) : xm_I) := rfl
theorem r_X10_end_2 : co_X10_end[2]? = some ((4, .iload_n 1, 0, 0, 0, 0, 0, 0, []) : xm_I) := rfl
theorem r_X10_end_3 : co_X10_end[3]? = some ((5, .aload_n 0, 0, 0, 0, 0, 0, 0, []) : xm_I) := rfl
theorem r_X10_end_4 : co_X10_end[4]? = some ((6, .getfield 10, 481, 9, 0, 2, 0, 0, []) : xm_I) := rfl
theorem r_X10_end_5 : co_X10_end[5]? = some ((9, .getfield 77, 146, 5, 1, 0, 0, 0, []) : xm_I) := rfl
theorem r_X10_end_6 : co_X10_end[6]? = some ((12, .if_icmp .le 5, 0, 0, 9, 0, 0, 0, []) : xm_I) := rfl
theorem r_X10_end_7 : co_X10_end[7]? = some ((15, .iconst (-1), 0, 0, 0, 0, (-1), 0, []) : xm_I) := rfl
theorem r_X10_end_8 : co_X10_end[8]? = some ((16, .ireturn, 0, 0, 0, 0, 0, 0, []) : xm_I) := rfl
theorem r_X10_end_9 : co_X10_end[9]? = some ((17, .aload_n 0, 0, 0, 0, 0, 0, 0, []) : xm_I) := rfl
theorem r_X10_end_10 : co_X10_end[10]? = some ((18, .getfield 10, 481, 9, 0, 2, 0, 0, []) : xm_I) := rfl
theorem r_X10_end_11 : co_X10_end[11]? = some ((21, .iload_n 1, 0, 0, 0, 0, 0, 0, []) : xm_I) := rfl
theorem r_X10_end_12 : co_X10_end[12]? = some ((22, .putfield 77, 146, 5, 1, 0, 0, 0, []) : xm_I) := rfl
theorem r_X10_end_13 : co_X10_end[13]? = some ((25, .iload_n 1, 0, 0, 0, 0, 0, 0, []) : xm_I) := rfl
theorem r_X10_end_14 : co_X10_end[14]? = some ((26, .ireturn, 0, 0, 0, 0, 0, 0, []) : xm_I) := rfl
theorem p_X10_end_0_0 {X : xm_X} {P : List xm_M} {d : Nat} {h : xm_H} {l0 : Nat} {l1 : Int32} (q0 : l1 < (0 : Int32)) : xm_E X P d co_X10_end 0 [some (.ref l0), some (.int l1)] [] h (some (.int (-1 : Int32))) h := by
  refine xm_E_s r_X10_end_0 rfl rfl ?_
  refine xm_E_s r_X10_end_1 rfl rfl ?_
  refine xm_E_t q0 ?_
  refine xm_E_s r_X10_end_7 rfl rfl ?_
  exact xm_E_iret r_X10_end_8 rfl rfl
theorem p_X10_end_0_1 {X : xm_X} {P : List xm_M} {d : Nat} {h : xm_H} {l0 : Nat} {l1 : Int32} {v0 : Nat} (q0 : ¬ (l1 < (0 : Int32))) (q1 : X.1[l0]? = some (.inr 9)) (q2 : h.2.2 l0 0 = some v0) (q3 : X.1[v0]? = some (.inr 5)) (q4 : l1 ≤ h.1 v0 1) : xm_E X P d co_X10_end 0 [some (.ref l0), some (.int l1)] [] h (some (.int l1)) (xm_si h v0 1 l1) := by
  refine xm_E_s r_X10_end_0 rfl rfl ?_
  refine xm_E_s r_X10_end_1 rfl rfl ?_
  refine xm_E_f q0 ?_
  refine xm_E_s r_X10_end_2 rfl rfl ?_
  refine xm_E_s r_X10_end_3 rfl rfl ?_
  refine xm_E_s r_X10_end_4 rfl (xm_T_gr rfl q1 rfl rfl q2) ?_
  refine xm_E_s r_X10_end_5 rfl (xm_T_gi rfl q3 rfl (Or.inl rfl)) ?_
  refine xm_E_s r_X10_end_6 rfl rfl ?_
  refine xm_E_t q4 ?_
  refine xm_E_s r_X10_end_9 rfl rfl ?_
  refine xm_E_s r_X10_end_10 rfl (xm_T_gr rfl q1 rfl rfl q2) ?_
  refine xm_E_s r_X10_end_11 rfl rfl ?_
  refine xm_E_s r_X10_end_12 rfl (xm_T_pi rfl q3 rfl rfl) ?_
  refine xm_E_s r_X10_end_13 rfl rfl ?_
  exact xm_E_iret r_X10_end_14 rfl rfl
theorem p_X10_end_0_2 {X : xm_X} {P : List xm_M} {d : Nat} {h : xm_H} {l0 : Nat} {l1 : Int32} {v0 : Nat} (q0 : ¬ (l1 < (0 : Int32))) (q1 : X.1[l0]? = some (.inr 9)) (q2 : h.2.2 l0 0 = some v0) (q3 : X.1[v0]? = some (.inr 5)) (q4 : ¬ (l1 ≤ h.1 v0 1)) : xm_E X P d co_X10_end 0 [some (.ref l0), some (.int l1)] [] h (some (.int (-1 : Int32))) h := by
  refine xm_E_s r_X10_end_0 rfl rfl ?_
  refine xm_E_s r_X10_end_1 rfl rfl ?_
  refine xm_E_f q0 ?_
  refine xm_E_s r_X10_end_2 rfl rfl ?_
  refine xm_E_s r_X10_end_3 rfl rfl ?_
  refine xm_E_s r_X10_end_4 rfl (xm_T_gr rfl q1 rfl rfl q2) ?_
  refine xm_E_s r_X10_end_5 rfl (xm_T_gi rfl q3 rfl (Or.inl rfl)) ?_
  refine xm_E_s r_X10_end_6 rfl rfl ?_
  refine xm_E_f q4 ?_
  refine xm_E_s r_X10_end_7 rfl rfl ?_
  exact xm_E_iret r_X10_end_8 rfl rfl
theorem r_X10_linen_0 : co_X10_linen[0]? = some ((0, .aload_n 0, 0, 0, 0, 0, 0, 0, []) : xm_I) := rfl
theorem r_X10_linen_1 : co_X10_linen[1]? = some ((1, .getfield 26, 483, 9, 2, 2, 0, 0, []) : xm_I) := rfl
theorem r_X10_linen_2 : co_X10_linen[2]? = some ((4, .invokevirtual 81, 529, 5, 1, 0, 0, 0, []) : xm_I) := rfl
theorem r_X10_linen_3 : co_X10_linen[3]? = some ((7, .aload_n 0, 0, 0, 0, 0, 0, 0, []) : xm_I) := rfl
theorem r_X10_linen_4 : co_X10_linen[4]? = some ((8, .getfield 10, 481, 9, 0, 2, 0, 0, []) : xm_I) := rfl
theorem r_X10_linen_5 : co_X10_linen[5]? = some ((11, .invokevirtual 84, 536, 7, 1, 5, 0, 0, []) : xm_I) := rfl
theorem r_X10_linen_6 : co_X10_linen[6]? = some ((14, .iconst 0, 0, 0, 0, 0, 0, 0, []) : xm_I) := rfl
theorem r_X10_linen_7 : co_X10_linen[7]? = some ((15, .istore_n 1, 0, 0, 0, 0, 0, 0, []) : xm_I) := rfl
theorem r_X10_linen_8 : co_X10_linen[8]? = some ((16, .iload_n 1, 0, 0, 0, 0, 0, 0, []) : xm_I) := rfl
theorem r_X10_linen_9 : co_X10_linen[9]? = some ((17, .sipush 1000, 0, 0, 0, 0, 1000, 0, []) : xm_I) := rfl
theorem r_X10_linen_10 : co_X10_linen[10]? = some ((20, .if_icmp .ge 59, 0, 0, 35, 0, 0, 0, []) : xm_I) := rfl
theorem r_X10_linen_11 : co_X10_linen[11]? = some ((23, .aload_n 0, 0, 0, 0, 0, 0, 0, []) : xm_I) := rfl
theorem r_X10_linen_12 : co_X10_linen[12]? = some ((24, .getfield 10, 481, 9, 0, 2, 0, 0, []) : xm_I) := rfl
theorem r_X10_linen_13 : co_X10_linen[13]? = some ((27, .invokevirtual 87, 550, 11, 1, 5, 0, 0, []) : xm_I) := rfl
theorem r_X10_linen_14 : co_X10_linen[14]? = some ((30, .ifCond .eq 49, 0, 0, 35, 0, 0, 0, []) : xm_I) := rfl
theorem r_X10_linen_15 : co_X10_linen[15]? = some ((33, .iload_n 1, 0, 0, 0, 0, 0, 0, []) : xm_I) := rfl
theorem r_X10_linen_16 : co_X10_linen[16]? = some ((34, .ifCond .ne 17, 0, 0, 23, 0, 0, 0, []) : xm_I) := rfl
theorem r_X10_linen_17 : co_X10_linen[17]? = some ((37, .aload_n 0, 0, 0, 0, 0, 0, 0, []) : xm_I) := rfl
theorem r_X10_linen_18 : co_X10_linen[18]? = some ((38, .getfield 10, 481, 9, 0, 2, 0, 0, []) : xm_I) := rfl
theorem r_X10_linen_19 : co_X10_linen[19]? = some ((41, .aload_n 0, 0, 0, 0, 0, 0, 0, []) : xm_I) := rfl
theorem r_X10_linen_20 : co_X10_linen[20]? = some ((42, .getfield 26, 483, 9, 2, 2, 0, 0, []) : xm_I) := rfl
theorem r_X10_linen_21 : co_X10_linen[21]? = some ((45, .invokevirtual 90, 554, 12, 2, 5, 0, 0, []) : xm_I) := rfl
theorem r_X10_linen_22 : co_X10_linen[22]? = some ((48, .goto 14, 0, 0, 28, 0, 0, 0, []) : xm_I) := rfl
theorem r_X10_linen_23 : co_X10_linen[23]? = some ((51, .aload_n 0, 0, 0, 0, 0, 0, 0, []) : xm_I) := rfl
theorem r_X10_linen_24 : co_X10_linen[24]? = some ((52, .getfield 10, 481, 9, 0, 2, 0, 0, []) : xm_I) := rfl
theorem r_X10_linen_25 : co_X10_linen[25]? = some ((55, .aload_n 0, 0, 0, 0, 0, 0, 0, []) : xm_I) := rfl
theorem r_X10_linen_26 : co_X10_linen[26]? = some ((56, .getfield 26, 483, 9, 2, 2, 0, 0, []) : xm_I) := rfl
theorem r_X10_linen_27 : co_X10_linen[27]? = some ((59, .invokevirtual 94, 636, 23, 2, 5, 0, 0, []) : xm_I) := rfl
theorem r_X10_linen_28 : co_X10_linen[28]? = some ((62, .aload_n 0, 0, 0, 0, 0, 0, 0, []) : xm_I) := rfl
theorem r_X10_linen_29 : co_X10_linen[29]? = some ((63, .getfield 10, 481, 9, 0, 2, 0, 0, []) : xm_I) := rfl
theorem r_X10_linen_30 : co_X10_linen[30]? = some ((66, .aload_n 0, 0, 0, 0, 0, 0, 0, []) : xm_I) := rfl
theorem r_X10_linen_31 : co_X10_linen[31]? = some ((67, .getfield 26, 483, 9, 2, 2, 0, 0, []) : xm_I) := rfl
theorem r_X10_linen_32 : co_X10_linen[32]? = some ((70, .invokevirtual 97, 673, 30, 2, 5, 0, 0, []) : xm_I) := rfl
theorem r_X10_linen_33 : co_X10_linen[33]? = some ((73, .iinc 1 1, 0, 0, 0, 0, 1, 0, []) : xm_I) := rfl
theorem r_X10_linen_34 : co_X10_linen[34]? = some ((76, .goto (-60), 0, 0, 8, 0, 0, 0, []) : xm_I) := rfl
theorem r_X10_linen_35 : co_X10_linen[35]? = some ((79, .aload_n 0, 0, 0, 0, 0, 0, 0, []) : xm_I) := rfl
theorem r_X10_linen_36 : co_X10_linen[36]? = some ((80, .getfield 10, 481, 9, 0, 2, 0, 0, []) : xm_I) := rfl
theorem r_X10_linen_37 : co_X10_linen[37]? = some ((83, .iconst 0, 0, 0, 0, 0, 0, 0, []) : xm_I) := rfl
theorem r_X10_linen_38 : co_X10_linen[38]? = some ((84, .putfield 77, 146, 5, 1, 0, 0, 0, []) : xm_I) := rfl
theorem r_X10_linen_39 : co_X10_linen[39]? = some ((87, .aload_n 0, 0, 0, 0, 0, 0, 0, []) : xm_I) := rfl
theorem r_X10_linen_40 : co_X10_linen[40]? = some ((88, .getfield 10, 481, 9, 0, 2, 0, 0, []) : xm_I) := rfl
theorem r_X10_linen_41 : co_X10_linen[41]? = some ((91, .getfield 100, 148, 5, 2, 0, 0, 0, []) : xm_I) := rfl
theorem r_X10_linen_42 : co_X10_linen[42]? = some ((94, .ifCond .eq 6, 0, 0, 45, 0, 0, 0, []) : xm_I) := rfl
theorem r_X10_linen_43 : co_X10_linen[43]? = some ((97, .bipush (-4), 0, 0, 0, 0, (-4), 0, []) : xm_I) := rfl
theorem r_X10_linen_44 : co_X10_linen[44]? = some ((99, .ireturn, 0, 0, 0, 0, 0, 0, []) : xm_I) := rfl
theorem r_X10_linen_45 : co_X10_linen[45]? = some ((100, .aload_n 0, 0, 0, 0, 0, 0, 0, []) : xm_I) := rfl
theorem r_X10_linen_46 : co_X10_linen[46]? = some ((101, .getfield 19, 482, 9, 1, 2, 0, 0, []) : xm_I) := rfl
theorem r_X10_linen_47 : co_X10_linen[47]? = some ((104, .getfield 103, 305, 8, 0, 2, 0, 0, []) : xm_I) := rfl
theorem r_X10_linen_48 : co_X10_linen[48]? = some ((107, .astore_n 1, 0, 0, 0, 0, 0, 0, []) : xm_I) := rfl
theorem r_X10_linen_49 : co_X10_linen[49]? = some ((108, .aload_n 0, 0, 0, 0, 0, 0, 0, []) : xm_I) := rfl
theorem r_X10_linen_50 : co_X10_linen[50]? = some ((109, .getfield 19, 482, 9, 1, 2, 0, 0, []) : xm_I) := rfl
theorem r_X10_linen_51 : co_X10_linen[51]? = some ((112, .aload_n 0, 0, 0, 0, 0, 0, 0, []) : xm_I) := rfl
theorem r_X10_linen_52 : co_X10_linen[52]? = some ((113, .getfield 26, 483, 9, 2, 2, 0, 0, []) : xm_I) := rfl
theorem r_X10_linen_53 : co_X10_linen[53]? = some ((116, .putfield 103, 305, 8, 0, 2, 0, 0, []) : xm_I) := rfl
theorem r_X10_linen_54 : co_X10_linen[54]? = some ((119, .aload_n 0, 0, 0, 0, 0, 0, 0, []) : xm_I) := rfl
theorem r_X10_linen_55 : co_X10_linen[55]? = some ((120, .aload_n 1, 0, 0, 0, 0, 0, 0, []) : xm_I) := rfl
theorem r_X10_linen_56 : co_X10_linen[56]? = some ((121, .putfield 26, 483, 9, 2, 2, 0, 0, []) : xm_I) := rfl
theorem r_X10_linen_57 : co_X10_linen[57]? = some ((124, .aload_n 0, 0, 0, 0, 0, 0, 0, []) : xm_I) := rfl
theorem r_X10_linen_58 : co_X10_linen[58]? = some ((125, .getfield 19, 482, 9, 1, 2, 0, 0, []) : xm_I) := rfl
theorem r_X10_linen_59 : co_X10_linen[59]? = some ((128, .invokevirtual 106, 677, 31, 1, 8, 0, 0, []) : xm_I) := rfl
theorem r_X10_linen_60 : co_X10_linen[60]? = some ((131, .aload_n 0, 0, 0, 0, 0, 0, 0, []) : xm_I) := rfl
theorem r_X10_linen_61 : co_X10_linen[61]? = some ((132, .getfield 19, 482, 9, 1, 2, 0, 0, []) : xm_I) := rfl
theorem r_X10_linen_62 : co_X10_linen[62]? = some ((135, .getfield 103, 305, 8, 0, 2, 0, 0, []) : xm_I) := rfl
theorem r_X10_linen_63 : co_X10_linen[63]? = some ((138, .getfield 107, 208, 0, 0, 0, 0, 0, []) : xm_I) := rfl
theorem r_X10_linen_64 : co_X10_linen[64]? = some ((141, .ireturn, 0, 0, 0, 0, 0, 0, []) : xm_I) := rfl
theorem p_X10_linen_0_0 {X : xm_X} {P : List xm_M} {d : Nat} {h : xm_H} {l0 : Nat} {v0 : Nat} {h1 : xm_H} {v2 : Nat} {h3 : xm_H} {ro : Option Value} {ho : xm_H} (q0 : X.1[l0]? = some (.inr 9)) (q1 : h.2.2 l0 2 = some v0) (q2 : xm_V X P d 5 [.ref v0] h none h1) (q3 : X.1[v0]? = some (.inr 0)) (q4 : h1.2.2 l0 0 = some v2) (q5 : xm_V X P d 7 [.ref v2] h1 none h3) (q6 : X.1[v2]? = some (.inr 5)) (K : xm_E X P d co_X10_linen 8 [some (.ref l0), some (.int (0 : Int32))] [] h3 ro ho) : xm_E X P d co_X10_linen 0 [some (.ref l0), none] [] h ro ho := by
  refine xm_E_s r_X10_linen_0 rfl rfl ?_
  refine xm_E_s r_X10_linen_1 rfl (xm_T_gr rfl q0 rfl rfl q1) ?_
  refine xm_E_cv [.ref v0] [] r_X10_linen_2 rfl rfl (Nat.le_of_ble_eq_true rfl) (xm_rc q3 (by decide)) rfl q2 ?_
  refine xm_E_s r_X10_linen_3 rfl rfl ?_
  refine xm_E_s r_X10_linen_4 rfl (xm_T_gr rfl q0 rfl rfl q4) ?_
  refine xm_E_cv [.ref v2] [] r_X10_linen_5 rfl rfl (Nat.le_of_ble_eq_true rfl) (xm_rc q6 (by decide)) rfl q5 ?_
  refine xm_E_s r_X10_linen_6 rfl rfl ?_
  refine xm_E_s (ls1 := [some (.ref l0), some (.int (0 : Int32))]) r_X10_linen_7 rfl rfl ?_
  exact K
theorem p_X10_linen_8_0 {X : xm_X} {P : List xm_M} {d : Nat} {h : xm_H} {l0 : Nat} {l1 : Int32} {v0 : Nat} {v1 : Nat} {v2 : Nat} {v3 : Nat} {v4 : Nat} {v5 : Nat} {h6 : xm_H} {v7 : Nat} {v8 : Nat} (q0 : (1000 : Int32) ≤ l1) (q1 : X.1[l0]? = some (.inr 9)) (q2 : h.2.2 l0 0 = some v0) (q3 : X.1[v0]? = some (.inr 5)) (q4 : (xm_si h v0 1 (0 : Int32)).2.2 l0 0 = some v1) (q5 : X.1[v1]? = some (.inr 5)) (q6 : (xm_si h v0 1 (0 : Int32)).1 v1 2 = (0 : Int32)) (q7 : (xm_si h v0 1 (0 : Int32)).2.2 l0 1 = some v2) (q8 : X.1[v2]? = some (.inr 8)) (q9 : (xm_si h v0 1 (0 : Int32)).2.2 v2 0 = some v3) (q10 : (xm_si h v0 1 (0 : Int32)).2.2 l0 2 = some v4) (q11 : (xm_sr (xm_sr (xm_si h v0 1 (0 : Int32)) v2 0 v4) l0 2 v3).2.2 l0 1 = some v5) (q12 : xm_V X P d 31 [.ref v5] (xm_sr (xm_sr (xm_si h v0 1 (0 : Int32)) v2 0 v4) l0 2 v3) none h6) (q13 : X.1[v5]? = some (.inr 8)) (q14 : h6.2.2 l0 1 = some v7) (q15 : X.1[v7]? = some (.inr 8)) (q16 : h6.2.2 v7 0 = some v8) (q17 : X.1[v8]? = some (.inr 0)) : xm_E X P d co_X10_linen 8 [some (.ref l0), some (.int l1)] [] h (some (.int (h6.1 v8 0))) h6 := by
  refine xm_E_s r_X10_linen_8 rfl rfl ?_
  refine xm_E_s r_X10_linen_9 rfl rfl ?_
  refine xm_E_s r_X10_linen_10 rfl rfl ?_
  refine xm_E_t q0 ?_
  refine xm_E_s r_X10_linen_35 rfl rfl ?_
  refine xm_E_s r_X10_linen_36 rfl (xm_T_gr rfl q1 rfl rfl q2) ?_
  refine xm_E_s r_X10_linen_37 rfl rfl ?_
  refine xm_E_s r_X10_linen_38 rfl (xm_T_pi rfl q3 rfl rfl) ?_
  refine xm_E_s r_X10_linen_39 rfl rfl ?_
  refine xm_E_s r_X10_linen_40 rfl (xm_T_gr rfl q1 rfl rfl q4) ?_
  refine xm_E_s r_X10_linen_41 rfl (xm_T_gi rfl q5 rfl (Or.inl rfl)) ?_
  refine xm_E_s r_X10_linen_42 rfl rfl ?_
  refine xm_E_t q6 ?_
  refine xm_E_s r_X10_linen_45 rfl rfl ?_
  refine xm_E_s r_X10_linen_46 rfl (xm_T_gr rfl q1 rfl rfl q7) ?_
  refine xm_E_s r_X10_linen_47 rfl (xm_T_gr rfl q8 rfl rfl q9) ?_
  refine xm_E_s (ls1 := [some (.ref l0), some (.ref v3)]) r_X10_linen_48 rfl rfl ?_
  refine xm_E_s r_X10_linen_49 rfl rfl ?_
  refine xm_E_s r_X10_linen_50 rfl (xm_T_gr rfl q1 rfl rfl q7) ?_
  refine xm_E_s r_X10_linen_51 rfl rfl ?_
  refine xm_E_s r_X10_linen_52 rfl (xm_T_gr rfl q1 rfl rfl q10) ?_
  refine xm_E_s r_X10_linen_53 rfl (xm_T_pr rfl q8 rfl rfl) ?_
  refine xm_E_s r_X10_linen_54 rfl rfl ?_
  refine xm_E_s r_X10_linen_55 rfl rfl ?_
  refine xm_E_s r_X10_linen_56 rfl (xm_T_pr rfl q1 rfl rfl) ?_
  refine xm_E_s r_X10_linen_57 rfl rfl ?_
  refine xm_E_s r_X10_linen_58 rfl (xm_T_gr rfl q1 rfl rfl q11) ?_
  refine xm_E_cv [.ref v5] [] r_X10_linen_59 rfl rfl (Nat.le_of_ble_eq_true rfl) (xm_rc q13 (by decide)) rfl q12 ?_
  refine xm_E_s r_X10_linen_60 rfl rfl ?_
  refine xm_E_s r_X10_linen_61 rfl (xm_T_gr rfl q1 rfl rfl q14) ?_
  refine xm_E_s r_X10_linen_62 rfl (xm_T_gr rfl q15 rfl rfl q16) ?_
  refine xm_E_s r_X10_linen_63 rfl (xm_T_gi rfl q17 rfl (Or.inl rfl)) ?_
  exact xm_E_iret r_X10_linen_64 rfl rfl
theorem p_X10_linen_8_1 {X : xm_X} {P : List xm_M} {d : Nat} {h : xm_H} {l0 : Nat} {l1 : Int32} {v0 : Nat} {v1 : Nat} (q0 : (1000 : Int32) ≤ l1) (q1 : X.1[l0]? = some (.inr 9)) (q2 : h.2.2 l0 0 = some v0) (q3 : X.1[v0]? = some (.inr 5)) (q4 : (xm_si h v0 1 (0 : Int32)).2.2 l0 0 = some v1) (q5 : X.1[v1]? = some (.inr 5)) (q6 : ¬ ((xm_si h v0 1 (0 : Int32)).1 v1 2 = (0 : Int32))) : xm_E X P d co_X10_linen 8 [some (.ref l0), some (.int l1)] [] h (some (.int (-4 : Int32))) (xm_si h v0 1 (0 : Int32)) := by
  refine xm_E_s r_X10_linen_8 rfl rfl ?_
  refine xm_E_s r_X10_linen_9 rfl rfl ?_
  refine xm_E_s r_X10_linen_10 rfl rfl ?_
  refine xm_E_t q0 ?_
  refine xm_E_s r_X10_linen_35 rfl rfl ?_
  refine xm_E_s r_X10_linen_36 rfl (xm_T_gr rfl q1 rfl rfl q2) ?_
  refine xm_E_s r_X10_linen_37 rfl rfl ?_
  refine xm_E_s r_X10_linen_38 rfl (xm_T_pi rfl q3 rfl rfl) ?_
  refine xm_E_s r_X10_linen_39 rfl rfl ?_
  refine xm_E_s r_X10_linen_40 rfl (xm_T_gr rfl q1 rfl rfl q4) ?_
  refine xm_E_s r_X10_linen_41 rfl (xm_T_gi rfl q5 rfl (Or.inl rfl)) ?_
  refine xm_E_s r_X10_linen_42 rfl rfl ?_
  refine xm_E_f q6 ?_
  refine xm_E_s r_X10_linen_43 rfl rfl ?_
  exact xm_E_iret r_X10_linen_44 rfl rfl
theorem p_X10_linen_8_2 {X : xm_X} {P : List xm_M} {d : Nat} {h : xm_H} {l0 : Nat} {l1 : Int32} {v0 : Nat} {h1 : xm_H} {r1 : Int32} {v2 : Nat} {v3 : Nat} {v4 : Nat} {v5 : Nat} {v6 : Nat} {v7 : Nat} {h8 : xm_H} {v9 : Nat} {v10 : Nat} (q0 : ¬ ((1000 : Int32) ≤ l1)) (q1 : X.1[l0]? = some (.inr 9)) (q2 : h.2.2 l0 0 = some v0) (q3 : xm_V X P d 11 [.ref v0] h (some (.int r1)) h1) (q4 : X.1[v0]? = some (.inr 5)) (q5 : r1 = (0 : Int32)) (q6 : h1.2.2 l0 0 = some v2) (q7 : X.1[v2]? = some (.inr 5)) (q8 : (xm_si h1 v2 1 (0 : Int32)).2.2 l0 0 = some v3) (q9 : X.1[v3]? = some (.inr 5)) (q10 : (xm_si h1 v2 1 (0 : Int32)).1 v3 2 = (0 : Int32)) (q11 : (xm_si h1 v2 1 (0 : Int32)).2.2 l0 1 = some v4) (q12 : X.1[v4]? = some (.inr 8)) (q13 : (xm_si h1 v2 1 (0 : Int32)).2.2 v4 0 = some v5) (q14 : (xm_si h1 v2 1 (0 : Int32)).2.2 l0 2 = some v6) (q15 : (xm_sr (xm_sr (xm_si h1 v2 1 (0 : Int32)) v4 0 v6) l0 2 v5).2.2 l0 1 = some v7) (q16 : xm_V X P d 31 [.ref v7] (xm_sr (xm_sr (xm_si h1 v2 1 (0 : Int32)) v4 0 v6) l0 2 v5) none h8) (q17 : X.1[v7]? = some (.inr 8)) (q18 : h8.2.2 l0 1 = some v9) (q19 : X.1[v9]? = some (.inr 8)) (q20 : h8.2.2 v9 0 = some v10) (q21 : X.1[v10]? = some (.inr 0)) : xm_E X P d co_X10_linen 8 [some (.ref l0), some (.int l1)] [] h (some (.int (h8.1 v10 0))) h8 := by
  refine xm_E_s r_X10_linen_8 rfl rfl ?_
  refine xm_E_s r_X10_linen_9 rfl rfl ?_
  refine xm_E_s r_X10_linen_10 rfl rfl ?_
  refine xm_E_f q0 ?_
  refine xm_E_s r_X10_linen_11 rfl rfl ?_
  refine xm_E_s r_X10_linen_12 rfl (xm_T_gr rfl q1 rfl rfl q2) ?_
  refine xm_E_cv [.ref v0] [] r_X10_linen_13 rfl rfl (Nat.le_of_ble_eq_true rfl) (xm_rc q4 (by decide)) rfl q3 ?_
  refine xm_E_s r_X10_linen_14 rfl rfl ?_
  refine xm_E_t q5 ?_
  refine xm_E_s r_X10_linen_35 rfl rfl ?_
  refine xm_E_s r_X10_linen_36 rfl (xm_T_gr rfl q1 rfl rfl q6) ?_
  refine xm_E_s r_X10_linen_37 rfl rfl ?_
  refine xm_E_s r_X10_linen_38 rfl (xm_T_pi rfl q7 rfl rfl) ?_
  refine xm_E_s r_X10_linen_39 rfl rfl ?_
  refine xm_E_s r_X10_linen_40 rfl (xm_T_gr rfl q1 rfl rfl q8) ?_
  refine xm_E_s r_X10_linen_41 rfl (xm_T_gi rfl q9 rfl (Or.inl rfl)) ?_
  refine xm_E_s r_X10_linen_42 rfl rfl ?_
  refine xm_E_t q10 ?_
  refine xm_E_s r_X10_linen_45 rfl rfl ?_
  refine xm_E_s r_X10_linen_46 rfl (xm_T_gr rfl q1 rfl rfl q11) ?_
  refine xm_E_s r_X10_linen_47 rfl (xm_T_gr rfl q12 rfl rfl q13) ?_
  refine xm_E_s (ls1 := [some (.ref l0), some (.ref v5)]) r_X10_linen_48 rfl rfl ?_
  refine xm_E_s r_X10_linen_49 rfl rfl ?_
  refine xm_E_s r_X10_linen_50 rfl (xm_T_gr rfl q1 rfl rfl q11) ?_
  refine xm_E_s r_X10_linen_51 rfl rfl ?_
  refine xm_E_s r_X10_linen_52 rfl (xm_T_gr rfl q1 rfl rfl q14) ?_
  refine xm_E_s r_X10_linen_53 rfl (xm_T_pr rfl q12 rfl rfl) ?_
  refine xm_E_s r_X10_linen_54 rfl rfl ?_
  refine xm_E_s r_X10_linen_55 rfl rfl ?_
  refine xm_E_s r_X10_linen_56 rfl (xm_T_pr rfl q1 rfl rfl) ?_
  refine xm_E_s r_X10_linen_57 rfl rfl ?_
  refine xm_E_s r_X10_linen_58 rfl (xm_T_gr rfl q1 rfl rfl q15) ?_
  refine xm_E_cv [.ref v7] [] r_X10_linen_59 rfl rfl (Nat.le_of_ble_eq_true rfl) (xm_rc q17 (by decide)) rfl q16 ?_
  refine xm_E_s r_X10_linen_60 rfl rfl ?_
  refine xm_E_s r_X10_linen_61 rfl (xm_T_gr rfl q1 rfl rfl q18) ?_
  refine xm_E_s r_X10_linen_62 rfl (xm_T_gr rfl q19 rfl rfl q20) ?_
  refine xm_E_s r_X10_linen_63 rfl (xm_T_gi rfl q21 rfl (Or.inl rfl)) ?_
  exact xm_E_iret r_X10_linen_64 rfl rfl
theorem p_X10_linen_8_3 {X : xm_X} {P : List xm_M} {d : Nat} {h : xm_H} {l0 : Nat} {l1 : Int32} {v0 : Nat} {h1 : xm_H} {r1 : Int32} {v2 : Nat} {v3 : Nat} (q0 : ¬ ((1000 : Int32) ≤ l1)) (q1 : X.1[l0]? = some (.inr 9)) (q2 : h.2.2 l0 0 = some v0) (q3 : xm_V X P d 11 [.ref v0] h (some (.int r1)) h1) (q4 : X.1[v0]? = some (.inr 5)) (q5 : r1 = (0 : Int32)) (q6 : h1.2.2 l0 0 = some v2) (q7 : X.1[v2]? = some (.inr 5)) (q8 : (xm_si h1 v2 1 (0 : Int32)).2.2 l0 0 = some v3) (q9 : X.1[v3]? = some (.inr 5)) (q10 : ¬ ((xm_si h1 v2 1 (0 : Int32)).1 v3 2 = (0 : Int32))) : xm_E X P d co_X10_linen 8 [some (.ref l0), some (.int l1)] [] h (some (.int (-4 : Int32))) (xm_si h1 v2 1 (0 : Int32)) := by
  refine xm_E_s r_X10_linen_8 rfl rfl ?_
  refine xm_E_s r_X10_linen_9 rfl rfl ?_
  refine xm_E_s r_X10_linen_10 rfl rfl ?_
  refine xm_E_f q0 ?_
  refine xm_E_s r_X10_linen_11 rfl rfl ?_
  refine xm_E_s r_X10_linen_12 rfl (xm_T_gr rfl q1 rfl rfl q2) ?_
  refine xm_E_cv [.ref v0] [] r_X10_linen_13 rfl rfl (Nat.le_of_ble_eq_true rfl) (xm_rc q4 (by decide)) rfl q3 ?_
  refine xm_E_s r_X10_linen_14 rfl rfl ?_
  refine xm_E_t q5 ?_
  refine xm_E_s r_X10_linen_35 rfl rfl ?_
  refine xm_E_s r_X10_linen_36 rfl (xm_T_gr rfl q1 rfl rfl q6) ?_
  refine xm_E_s r_X10_linen_37 rfl rfl ?_
  refine xm_E_s r_X10_linen_38 rfl (xm_T_pi rfl q7 rfl rfl) ?_
  refine xm_E_s r_X10_linen_39 rfl rfl ?_
  refine xm_E_s r_X10_linen_40 rfl (xm_T_gr rfl q1 rfl rfl q8) ?_
  refine xm_E_s r_X10_linen_41 rfl (xm_T_gi rfl q9 rfl (Or.inl rfl)) ?_
  refine xm_E_s r_X10_linen_42 rfl rfl ?_
  refine xm_E_f q10 ?_
  refine xm_E_s r_X10_linen_43 rfl rfl ?_
  exact xm_E_iret r_X10_linen_44 rfl rfl
theorem p_X10_linen_8_4 {X : xm_X} {P : List xm_M} {d : Nat} {h : xm_H} {l0 : Nat} {l1 : Int32} {v0 : Nat} {h1 : xm_H} {r1 : Int32} {v2 : Nat} {v3 : Nat} {h4 : xm_H} {v5 : Nat} {v6 : Nat} {h7 : xm_H} {ro : Option Value} {ho : xm_H} (q0 : ¬ ((1000 : Int32) ≤ l1)) (q1 : X.1[l0]? = some (.inr 9)) (q2 : h.2.2 l0 0 = some v0) (q3 : xm_V X P d 11 [.ref v0] h (some (.int r1)) h1) (q4 : X.1[v0]? = some (.inr 5)) (q5 : ¬ (r1 = (0 : Int32))) (q6 : l1 = (0 : Int32)) (q7 : h1.2.2 l0 0 = some v2) (q8 : h1.2.2 l0 2 = some v3) (q9 : xm_V X P d 12 [.ref v2, .ref v3] h1 none h4) (q10 : X.1[v2]? = some (.inr 5)) (q11 : h4.2.2 l0 0 = some v5) (q12 : h4.2.2 l0 2 = some v6) (q13 : xm_V X P d 30 [.ref v5, .ref v6] h4 none h7) (q14 : X.1[v5]? = some (.inr 5)) (K : xm_E X P d co_X10_linen 8 [some (.ref l0), some (.int (l1 + (1 : Int32)))] [] h7 ro ho) : xm_E X P d co_X10_linen 8 [some (.ref l0), some (.int l1)] [] h ro ho := by
  refine xm_E_s r_X10_linen_8 rfl rfl ?_
  refine xm_E_s r_X10_linen_9 rfl rfl ?_
  refine xm_E_s r_X10_linen_10 rfl rfl ?_
  refine xm_E_f q0 ?_
  refine xm_E_s r_X10_linen_11 rfl rfl ?_
  refine xm_E_s r_X10_linen_12 rfl (xm_T_gr rfl q1 rfl rfl q2) ?_
  refine xm_E_cv [.ref v0] [] r_X10_linen_13 rfl rfl (Nat.le_of_ble_eq_true rfl) (xm_rc q4 (by decide)) rfl q3 ?_
  refine xm_E_s r_X10_linen_14 rfl rfl ?_
  refine xm_E_f q5 ?_
  refine xm_E_s r_X10_linen_15 rfl rfl ?_
  refine xm_E_s r_X10_linen_16 rfl rfl ?_
  refine xm_E_t q6 ?_
  refine xm_E_s r_X10_linen_17 rfl rfl ?_
  refine xm_E_s r_X10_linen_18 rfl (xm_T_gr rfl q1 rfl rfl q7) ?_
  refine xm_E_s r_X10_linen_19 rfl rfl ?_
  refine xm_E_s r_X10_linen_20 rfl (xm_T_gr rfl q1 rfl rfl q8) ?_
  refine xm_E_cv [.ref v2, .ref v3] [] r_X10_linen_21 rfl rfl (Nat.le_of_ble_eq_true rfl) (xm_rc q10 (by decide)) rfl q9 ?_
  refine xm_E_s r_X10_linen_22 rfl rfl ?_
  refine xm_E_s r_X10_linen_28 rfl rfl ?_
  refine xm_E_s r_X10_linen_29 rfl (xm_T_gr rfl q1 rfl rfl q11) ?_
  refine xm_E_s r_X10_linen_30 rfl rfl ?_
  refine xm_E_s r_X10_linen_31 rfl (xm_T_gr rfl q1 rfl rfl q12) ?_
  refine xm_E_cv [.ref v5, .ref v6] [] r_X10_linen_32 rfl rfl (Nat.le_of_ble_eq_true rfl) (xm_rc q14 (by decide)) rfl q13 ?_
  refine xm_E_s (ls1 := [some (.ref l0), some (.int (l1 + (1 : Int32)))]) r_X10_linen_33 rfl rfl ?_
  refine xm_E_s r_X10_linen_34 rfl rfl ?_
  exact K
theorem p_X10_linen_8_5 {X : xm_X} {P : List xm_M} {d : Nat} {h : xm_H} {l0 : Nat} {l1 : Int32} {v0 : Nat} {h1 : xm_H} {r1 : Int32} {v2 : Nat} {v3 : Nat} {h4 : xm_H} {v5 : Nat} {v6 : Nat} {h7 : xm_H} {ro : Option Value} {ho : xm_H} (q0 : ¬ ((1000 : Int32) ≤ l1)) (q1 : X.1[l0]? = some (.inr 9)) (q2 : h.2.2 l0 0 = some v0) (q3 : xm_V X P d 11 [.ref v0] h (some (.int r1)) h1) (q4 : X.1[v0]? = some (.inr 5)) (q5 : ¬ (r1 = (0 : Int32))) (q6 : ¬ (l1 = (0 : Int32))) (q7 : h1.2.2 l0 0 = some v2) (q8 : h1.2.2 l0 2 = some v3) (q9 : xm_V X P d 23 [.ref v2, .ref v3] h1 none h4) (q10 : X.1[v2]? = some (.inr 5)) (q11 : h4.2.2 l0 0 = some v5) (q12 : h4.2.2 l0 2 = some v6) (q13 : xm_V X P d 30 [.ref v5, .ref v6] h4 none h7) (q14 : X.1[v5]? = some (.inr 5)) (K : xm_E X P d co_X10_linen 8 [some (.ref l0), some (.int (l1 + (1 : Int32)))] [] h7 ro ho) : xm_E X P d co_X10_linen 8 [some (.ref l0), some (.int l1)] [] h ro ho := by
  refine xm_E_s r_X10_linen_8 rfl rfl ?_
  refine xm_E_s r_X10_linen_9 rfl rfl ?_
  refine xm_E_s r_X10_linen_10 rfl rfl ?_
  refine xm_E_f q0 ?_
  refine xm_E_s r_X10_linen_11 rfl rfl ?_
  refine xm_E_s r_X10_linen_12 rfl (xm_T_gr rfl q1 rfl rfl q2) ?_
  refine xm_E_cv [.ref v0] [] r_X10_linen_13 rfl rfl (Nat.le_of_ble_eq_true rfl) (xm_rc q4 (by decide)) rfl q3 ?_
  refine xm_E_s r_X10_linen_14 rfl rfl ?_
  refine xm_E_f q5 ?_
  refine xm_E_s r_X10_linen_15 rfl rfl ?_
  refine xm_E_s r_X10_linen_16 rfl rfl ?_
  refine xm_E_f q6 ?_
  refine xm_E_s r_X10_linen_23 rfl rfl ?_
  refine xm_E_s r_X10_linen_24 rfl (xm_T_gr rfl q1 rfl rfl q7) ?_
  refine xm_E_s r_X10_linen_25 rfl rfl ?_
  refine xm_E_s r_X10_linen_26 rfl (xm_T_gr rfl q1 rfl rfl q8) ?_
  refine xm_E_cv [.ref v2, .ref v3] [] r_X10_linen_27 rfl rfl (Nat.le_of_ble_eq_true rfl) (xm_rc q10 (by decide)) rfl q9 ?_
  refine xm_E_s r_X10_linen_28 rfl rfl ?_
  refine xm_E_s r_X10_linen_29 rfl (xm_T_gr rfl q1 rfl rfl q11) ?_
  refine xm_E_s r_X10_linen_30 rfl rfl ?_
  refine xm_E_s r_X10_linen_31 rfl (xm_T_gr rfl q1 rfl rfl q12) ?_
  refine xm_E_cv [.ref v5, .ref v6] [] r_X10_linen_32 rfl rfl (Nat.le_of_ble_eq_true rfl) (xm_rc q14 (by decide)) rfl q13 ?_
  refine xm_E_s (ls1 := [some (.ref l0), some (.int (l1 + (1 : Int32)))]) r_X10_linen_33 rfl rfl ?_
  refine xm_E_s r_X10_linen_34 rfl rfl ?_
  exact K
theorem r_X10_fault_0 : co_X10_fault[0]? = some ((0, .iload_n 1, 0, 0, 0, 0, 0, 0, []) : xm_I) := rfl
theorem r_X10_fault_1 : co_X10_fault[1]? = some ((1, .ifCond .ne 11, 0, 0, 6, 0, 0, 0, []) : xm_I) := rfl
theorem r_X10_fault_2 : co_X10_fault[2]? = some ((4, .aload_n 0, 0, 0, 0, 0, 0, 0, []) : xm_I) := rfl
theorem r_X10_fault_3 : co_X10_fault[3]? = some ((5, .getfield 10, 481, 9, 0, 2, 0, 0, []) : xm_I) := rfl
theorem r_X10_fault_4 : co_X10_fault[4]? = some ((8, .getfield 100, 148, 5, 2, 0, 0, 0, []) : xm_I) := rfl
theorem r_X10_fault_5 : co_X10_fault[5]? = some ((11, .ireturn, 0, 0, 0, 0, 0, 0, []) : xm_I) := rfl
theorem r_X10_fault_6 : co_X10_fault[6]? = some ((12, .iload_n 1, 0, 0, 0, 0, 0, 0, []) : xm_I) := rfl
theorem r_X10_fault_7 : co_X10_fault[7]? = some ((13, .iconst 1, 0, 0, 0, 0, 1, 0, []) : xm_I) := rfl
theorem r_X10_fault_8 : co_X10_fault[8]? = some ((14, .if_icmp .ne 13, 0, 0, 13, 0, 0, 0, []) : xm_I) := rfl
theorem r_X10_fault_9 : co_X10_fault[9]? = some ((17, .aload_n 0, 0, 0, 0, 0, 0, 0, []) : xm_I) := rfl
theorem r_X10_fault_10 : co_X10_fault[10]? = some ((18, .getfield 10, 481, 9, 0, 2, 0, 0, []) : xm_I) := rfl
theorem r_X10_fault_11 : co_X10_fault[11]? = some ((21, .getfield 110, 150, 5, 3, 0, 0, 0, []) : xm_I) := rfl
theorem r_X10_fault_12 : co_X10_fault[12]? = some ((24, .goto 4, 0, 0, 14, 0, 0, 0, []) : xm_I) := rfl
theorem r_X10_fault_13 : co_X10_fault[13]? = some ((27, .iconst (-1), 0, 0, 0, 0, (-1), 0, []) : xm_I) := rfl
theorem r_X10_fault_14 : co_X10_fault[14]? = some ((28, .ireturn, 0, 0, 0, 0, 0, 0, []) : xm_I) := rfl
theorem p_X10_fault_0_0 {X : xm_X} {P : List xm_M} {d : Nat} {h : xm_H} {l0 : Nat} {l1 : Int32} {v0 : Nat} (q0 : l1 = (0 : Int32)) (q1 : X.1[l0]? = some (.inr 9)) (q2 : h.2.2 l0 0 = some v0) (q3 : X.1[v0]? = some (.inr 5)) : xm_E X P d co_X10_fault 0 [some (.ref l0), some (.int l1)] [] h (some (.int (h.1 v0 2))) h := by
  refine xm_E_s r_X10_fault_0 rfl rfl ?_
  refine xm_E_s r_X10_fault_1 rfl rfl ?_
  refine xm_E_t q0 ?_
  refine xm_E_s r_X10_fault_2 rfl rfl ?_
  refine xm_E_s r_X10_fault_3 rfl (xm_T_gr rfl q1 rfl rfl q2) ?_
  refine xm_E_s r_X10_fault_4 rfl (xm_T_gi rfl q3 rfl (Or.inl rfl)) ?_
  exact xm_E_iret r_X10_fault_5 rfl rfl
theorem p_X10_fault_0_1 {X : xm_X} {P : List xm_M} {d : Nat} {h : xm_H} {l0 : Nat} {l1 : Int32} {v0 : Nat} (q0 : ¬ (l1 = (0 : Int32))) (q1 : l1 = (1 : Int32)) (q2 : X.1[l0]? = some (.inr 9)) (q3 : h.2.2 l0 0 = some v0) (q4 : X.1[v0]? = some (.inr 5)) : xm_E X P d co_X10_fault 0 [some (.ref l0), some (.int l1)] [] h (some (.int (h.1 v0 3))) h := by
  refine xm_E_s r_X10_fault_0 rfl rfl ?_
  refine xm_E_s r_X10_fault_1 rfl rfl ?_
  refine xm_E_f q0 ?_
  refine xm_E_s r_X10_fault_6 rfl rfl ?_
  refine xm_E_s r_X10_fault_7 rfl rfl ?_
  refine xm_E_s r_X10_fault_8 rfl rfl ?_
  refine xm_E_t q1 ?_
  refine xm_E_s r_X10_fault_9 rfl rfl ?_
  refine xm_E_s r_X10_fault_10 rfl (xm_T_gr rfl q2 rfl rfl q3) ?_
  refine xm_E_s r_X10_fault_11 rfl (xm_T_gi rfl q4 rfl (Or.inl rfl)) ?_
  refine xm_E_s r_X10_fault_12 rfl rfl ?_
  exact xm_E_iret r_X10_fault_14 rfl rfl
theorem p_X10_fault_0_2 {X : xm_X} {P : List xm_M} {d : Nat} {h : xm_H} {l0 : Nat} {l1 : Int32} (q0 : ¬ (l1 = (0 : Int32))) (q1 : ¬ (l1 = (1 : Int32))) : xm_E X P d co_X10_fault 0 [some (.ref l0), some (.int l1)] [] h (some (.int (-1 : Int32))) h := by
  refine xm_E_s r_X10_fault_0 rfl rfl ?_
  refine xm_E_s r_X10_fault_1 rfl rfl ?_
  refine xm_E_f q0 ?_
  refine xm_E_s r_X10_fault_6 rfl rfl ?_
  refine xm_E_s r_X10_fault_7 rfl rfl ?_
  refine xm_E_s r_X10_fault_8 rfl rfl ?_
  refine xm_E_f q1 ?_
  refine xm_E_s r_X10_fault_13 rfl rfl ?_
  exact xm_E_iret r_X10_fault_14 rfl rfl
theorem r_X10_state_0 : co_X10_state[0]? = some ((0, .aload_n 0, 0, 0, 0, 0, 0, 0, []) : xm_I) := rfl
theorem r_X10_state_1 : co_X10_state[1]? = some ((1, .getfield 19, 482, 9, 1, 2, 0, 0, []) : xm_I) := rfl
theorem r_X10_state_2 : co_X10_state[2]? = some ((4, .invokevirtual 113, 696, 36, 1, 8, 0, 0, []) : xm_I) := rfl
theorem r_X10_state_3 : co_X10_state[3]? = some ((7, .ifCond .eq 8, 0, 0, 6, 0, 0, 0, []) : xm_I) := rfl
theorem r_X10_state_4 : co_X10_state[4]? = some ((10, .bipush (-100), 0, 0, 0, 0, (-100), 0, []) : xm_I) := rfl
theorem r_X10_state_5 : co_X10_state[5]? = some ((12, .goto 22, 0, 0, 15, 0, 0, 0, []) : xm_I) := rfl
theorem r_X10_state_6 : co_X10_state[6]? = some ((15, .aload_n 0, 0, 0, 0, 0, 0, 0, []) : xm_I) := rfl
theorem r_X10_state_7 : co_X10_state[7]? = some ((16, .aload_n 0, 0, 0, 0, 0, 0, 0, []) : xm_I) := rfl
theorem r_X10_state_8 : co_X10_state[8]? = some ((17, .getfield 19, 482, 9, 1, 2, 0, 0, []) : xm_I) := rfl
theorem r_X10_state_9 : co_X10_state[9]? = some ((20, .getfield 116, 311, 8, 3, 0, 0, 0, []) : xm_I) := rfl
theorem r_X10_state_10 : co_X10_state[10]? = some ((23, .aload_n 0, 0, 0, 0, 0, 0, 0, []) : xm_I) := rfl
theorem r_X10_state_11 : co_X10_state[11]? = some ((24, .getfield 19, 482, 9, 1, 2, 0, 0, []) : xm_I) := rfl
theorem r_X10_state_12 : co_X10_state[12]? = some ((27, .getfield 119, 314, 8, 4, 0, 0, 0, []) : xm_I) := rfl
theorem r_X10_state_13 : co_X10_state[13]? = some ((30, .iload_n 1, 0, 0, 0, 0, 0, 0, []) : xm_I) := rfl
theorem r_X10_state_14 : co_X10_state[14]? = some ((31, .invokevirtual 122, 700, 37, 4, 9, 0, 0, []) : xm_I) := rfl
theorem r_X10_state_15 : co_X10_state[15]? = some ((34, .ireturn, 0, 0, 0, 0, 0, 0, []) : xm_I) := rfl
theorem p_X10_state_0_0 {X : xm_X} {P : List xm_M} {d : Nat} {h : xm_H} {l0 : Nat} {l1 : Int32} {v0 : Nat} {h1 : xm_H} {r1 : Int32} {v2 : Nat} {h3 : xm_H} {r3 : Int32} (q0 : X.1[l0]? = some (.inr 9)) (q1 : h.2.2 l0 1 = some v0) (q2 : xm_V X P d 36 [.ref v0] h (some (.int r1)) h1) (q3 : X.1[v0]? = some (.inr 8)) (q4 : r1 = (0 : Int32)) (q5 : h1.2.2 l0 1 = some v2) (q6 : X.1[v2]? = some (.inr 8)) (q7 : xm_V X P d 37 [.ref l0, .int (h1.1 v2 3), .int (h1.1 v2 4), .int l1] h1 (some (.int r3)) h3) : xm_E X P d co_X10_state 0 [some (.ref l0), some (.int l1)] [] h (some (.int r3)) h3 := by
  refine xm_E_s r_X10_state_0 rfl rfl ?_
  refine xm_E_s r_X10_state_1 rfl (xm_T_gr rfl q0 rfl rfl q1) ?_
  refine xm_E_cv [.ref v0] [] r_X10_state_2 rfl rfl (Nat.le_of_ble_eq_true rfl) (xm_rc q3 (by decide)) rfl q2 ?_
  refine xm_E_s r_X10_state_3 rfl rfl ?_
  refine xm_E_t q4 ?_
  refine xm_E_s r_X10_state_6 rfl rfl ?_
  refine xm_E_s r_X10_state_7 rfl rfl ?_
  refine xm_E_s r_X10_state_8 rfl (xm_T_gr rfl q0 rfl rfl q5) ?_
  refine xm_E_s r_X10_state_9 rfl (xm_T_gi rfl q6 rfl (Or.inl rfl)) ?_
  refine xm_E_s r_X10_state_10 rfl rfl ?_
  refine xm_E_s r_X10_state_11 rfl (xm_T_gr rfl q0 rfl rfl q5) ?_
  refine xm_E_s r_X10_state_12 rfl (xm_T_gi rfl q6 rfl (Or.inl rfl)) ?_
  refine xm_E_s r_X10_state_13 rfl rfl ?_
  refine xm_E_cv [.ref l0, .int (h1.1 v2 3), .int (h1.1 v2 4), .int l1] [] r_X10_state_14 rfl rfl (Nat.le_of_ble_eq_true rfl) (xm_rc q0 (by decide)) rfl q7 ?_
  exact xm_E_iret r_X10_state_15 rfl rfl
theorem p_X10_state_0_1 {X : xm_X} {P : List xm_M} {d : Nat} {h : xm_H} {l0 : Nat} {l1 : Int32} {v0 : Nat} {h1 : xm_H} {r1 : Int32} (q0 : X.1[l0]? = some (.inr 9)) (q1 : h.2.2 l0 1 = some v0) (q2 : xm_V X P d 36 [.ref v0] h (some (.int r1)) h1) (q3 : X.1[v0]? = some (.inr 8)) (q4 : ¬ (r1 = (0 : Int32))) : xm_E X P d co_X10_state 0 [some (.ref l0), some (.int l1)] [] h (some (.int (-100 : Int32))) h1 := by
  refine xm_E_s r_X10_state_0 rfl rfl ?_
  refine xm_E_s r_X10_state_1 rfl (xm_T_gr rfl q0 rfl rfl q1) ?_
  refine xm_E_cv [.ref v0] [] r_X10_state_2 rfl rfl (Nat.le_of_ble_eq_true rfl) (xm_rc q3 (by decide)) rfl q2 ?_
  refine xm_E_s r_X10_state_3 rfl rfl ?_
  refine xm_E_f q4 ?_
  refine xm_E_s r_X10_state_4 rfl rfl ?_
  refine xm_E_s r_X10_state_5 rfl rfl ?_
  exact xm_E_iret r_X10_state_15 rfl rfl
theorem r_X10_viewOf_0 : co_X10_viewOf[0]? = some ((0, .iload_n 3, 0, 0, 0, 0, 0, 0, []) : xm_I) := rfl
theorem r_X10_viewOf_1 : co_X10_viewOf[1]? = some ((1, .tableswitch 98 0 7 #[47, 52, 57, 62, 67, 72, 84, 96], 0, 0, 31, 0, 0, 0, [2, 5, 8, 11, 14, 17, 23, 29]) : xm_I) := rfl
theorem r_X10_viewOf_2 : co_X10_viewOf[2]? = some ((48, .iload_n 1, 0, 0, 0, 0, 0, 0, []) : xm_I) := rfl
theorem r_X10_viewOf_3 : co_X10_viewOf[3]? = some ((49, .invokestatic 405, 704, 38, 1, 0, 0, 0, []) : xm_I) := rfl
theorem r_X10_viewOf_4 : co_X10_viewOf[4]? = some ((52, .ireturn, 0, 0, 0, 0, 0, 0, []) : xm_I) := rfl
theorem r_X10_viewOf_5 : co_X10_viewOf[5]? = some ((53, .iload_n 1, 0, 0, 0, 0, 0, 0, []) : xm_I) := rfl
theorem r_X10_viewOf_6 : co_X10_viewOf[6]? = some ((54, .invokestatic 408, 707, 39, 1, 0, 0, 0, []) : xm_I) := rfl
theorem r_X10_viewOf_7 : co_X10_viewOf[7]? = some ((57, .ireturn, 0, 0, 0, 0, 0, 0, []) : xm_I) := rfl
theorem r_X10_viewOf_8 : co_X10_viewOf[8]? = some ((58, .iload_n 1, 0, 0, 0, 0, 0, 0, []) : xm_I) := rfl
theorem r_X10_viewOf_9 : co_X10_viewOf[9]? = some ((59, .invokestatic 411, 710, 40, 1, 0, 0, 0, []) : xm_I) := rfl
theorem r_X10_viewOf_10 : co_X10_viewOf[10]? = some ((62, .ireturn, 0, 0, 0, 0, 0, 0, []) : xm_I) := rfl
theorem r_X10_viewOf_11 : co_X10_viewOf[11]? = some ((63, .iload_n 1, 0, 0, 0, 0, 0, 0, []) : xm_I) := rfl
theorem r_X10_viewOf_12 : co_X10_viewOf[12]? = some ((64, .invokestatic 414, 713, 41, 1, 0, 0, 0, []) : xm_I) := rfl
theorem r_X10_viewOf_13 : co_X10_viewOf[13]? = some ((67, .ireturn, 0, 0, 0, 0, 0, 0, []) : xm_I) := rfl
theorem r_X10_viewOf_14 : co_X10_viewOf[14]? = some ((68, .iload_n 1, 0, 0, 0, 0, 0, 0, []) : xm_I) := rfl
theorem r_X10_viewOf_15 : co_X10_viewOf[15]? = some ((69, .invokestatic 298, 716, 42, 1, 0, 0, 0, []) : xm_I) := rfl
theorem r_X10_viewOf_16 : co_X10_viewOf[16]? = some ((72, .ireturn, 0, 0, 0, 0, 0, 0, []) : xm_I) := rfl
theorem r_X10_viewOf_17 : co_X10_viewOf[17]? = some ((73, .aload_n 0, 0, 0, 0, 0, 0, 0, []) : xm_I) := rfl
theorem r_X10_viewOf_18 : co_X10_viewOf[18]? = some ((74, .getfield 19, 482, 9, 1, 2, 0, 0, []) : xm_I) := rfl
theorem r_X10_viewOf_19 : co_X10_viewOf[19]? = some ((77, .getfield 103, 305, 8, 0, 2, 0, 0, []) : xm_I) := rfl
theorem r_X10_viewOf_20 : co_X10_viewOf[20]? = some ((80, .iload_n 1, 0, 0, 0, 0, 0, 0, []) : xm_I) := rfl
theorem r_X10_viewOf_21 : co_X10_viewOf[21]? = some ((81, .invokevirtual 232, 719, 43, 2, 0, 0, 0, []) : xm_I) := rfl
theorem r_X10_viewOf_22 : co_X10_viewOf[22]? = some ((84, .ireturn, 0, 0, 0, 0, 0, 0, []) : xm_I) := rfl
theorem r_X10_viewOf_23 : co_X10_viewOf[23]? = some ((85, .aload_n 0, 0, 0, 0, 0, 0, 0, []) : xm_I) := rfl
theorem r_X10_viewOf_24 : co_X10_viewOf[24]? = some ((86, .getfield 19, 482, 9, 1, 2, 0, 0, []) : xm_I) := rfl
theorem r_X10_viewOf_25 : co_X10_viewOf[25]? = some ((89, .getfield 103, 305, 8, 0, 2, 0, 0, []) : xm_I) := rfl
theorem r_X10_viewOf_26 : co_X10_viewOf[26]? = some ((92, .iload_n 1, 0, 0, 0, 0, 0, 0, []) : xm_I) := rfl
theorem r_X10_viewOf_27 : co_X10_viewOf[27]? = some ((93, .invokevirtual 304, 725, 44, 2, 0, 0, 0, []) : xm_I) := rfl
theorem r_X10_viewOf_28 : co_X10_viewOf[28]? = some ((96, .ireturn, 0, 0, 0, 0, 0, 0, []) : xm_I) := rfl
theorem r_X10_viewOf_29 : co_X10_viewOf[29]? = some ((97, .iload_n 2, 0, 0, 0, 0, 0, 0, []) : xm_I) := rfl
theorem r_X10_viewOf_30 : co_X10_viewOf[30]? = some ((98, .ireturn, 0, 0, 0, 0, 0, 0, []) : xm_I) := rfl
theorem r_X10_viewOf_31 : co_X10_viewOf[31]? = some ((99, .bipush (-100), 0, 0, 0, 0, (-100), 0, []) : xm_I) := rfl
theorem r_X10_viewOf_32 : co_X10_viewOf[32]? = some ((101, .ireturn, 0, 0, 0, 0, 0, 0, []) : xm_I) := rfl
theorem p_X10_viewOf_0_0 {X : xm_X} {P : List xm_M} {d : Nat} {h : xm_H} {l0 : Nat} {l1 : Int32} {l2 : Int32} {l3 : Int32} {h0 : xm_H} {r0 : Int32} (q0 : l3 = (0 : Int32)) (q1 : xm_V X P d 38 [.int l1] h (some (.int r0)) h0) : xm_E X P d co_X10_viewOf 0 [some (.ref l0), some (.int l1), some (.int l2), some (.int l3)] [] h (some (.int r0)) h0 := by
  refine xm_E_s r_X10_viewOf_0 rfl rfl ?_
  refine xm_E_s r_X10_viewOf_1 rfl (xm_T_tab (0 : Int32) 2 rfl q0 (by decide) rfl) ?_
  refine xm_E_s r_X10_viewOf_2 rfl rfl ?_
  refine xm_E_cs [.int l1] [] r_X10_viewOf_3 rfl rfl rfl (Nat.le_of_ble_eq_true rfl) rfl q1 ?_
  exact xm_E_iret r_X10_viewOf_4 rfl rfl
theorem p_X10_viewOf_0_1 {X : xm_X} {P : List xm_M} {d : Nat} {h : xm_H} {l0 : Nat} {l1 : Int32} {l2 : Int32} {l3 : Int32} {h0 : xm_H} {r0 : Int32} (q0 : l3 = (1 : Int32)) (q1 : xm_V X P d 39 [.int l1] h (some (.int r0)) h0) : xm_E X P d co_X10_viewOf 0 [some (.ref l0), some (.int l1), some (.int l2), some (.int l3)] [] h (some (.int r0)) h0 := by
  refine xm_E_s r_X10_viewOf_0 rfl rfl ?_
  refine xm_E_s r_X10_viewOf_1 rfl (xm_T_tab (1 : Int32) 5 rfl q0 (by decide) rfl) ?_
  refine xm_E_s r_X10_viewOf_5 rfl rfl ?_
  refine xm_E_cs [.int l1] [] r_X10_viewOf_6 rfl rfl rfl (Nat.le_of_ble_eq_true rfl) rfl q1 ?_
  exact xm_E_iret r_X10_viewOf_7 rfl rfl
theorem p_X10_viewOf_0_2 {X : xm_X} {P : List xm_M} {d : Nat} {h : xm_H} {l0 : Nat} {l1 : Int32} {l2 : Int32} {l3 : Int32} {h0 : xm_H} {r0 : Int32} (q0 : l3 = (2 : Int32)) (q1 : xm_V X P d 40 [.int l1] h (some (.int r0)) h0) : xm_E X P d co_X10_viewOf 0 [some (.ref l0), some (.int l1), some (.int l2), some (.int l3)] [] h (some (.int r0)) h0 := by
  refine xm_E_s r_X10_viewOf_0 rfl rfl ?_
  refine xm_E_s r_X10_viewOf_1 rfl (xm_T_tab (2 : Int32) 8 rfl q0 (by decide) rfl) ?_
  refine xm_E_s r_X10_viewOf_8 rfl rfl ?_
  refine xm_E_cs [.int l1] [] r_X10_viewOf_9 rfl rfl rfl (Nat.le_of_ble_eq_true rfl) rfl q1 ?_
  exact xm_E_iret r_X10_viewOf_10 rfl rfl
theorem p_X10_viewOf_0_3 {X : xm_X} {P : List xm_M} {d : Nat} {h : xm_H} {l0 : Nat} {l1 : Int32} {l2 : Int32} {l3 : Int32} {h0 : xm_H} {r0 : Int32} (q0 : l3 = (3 : Int32)) (q1 : xm_V X P d 41 [.int l1] h (some (.int r0)) h0) : xm_E X P d co_X10_viewOf 0 [some (.ref l0), some (.int l1), some (.int l2), some (.int l3)] [] h (some (.int r0)) h0 := by
  refine xm_E_s r_X10_viewOf_0 rfl rfl ?_
  refine xm_E_s r_X10_viewOf_1 rfl (xm_T_tab (3 : Int32) 11 rfl q0 (by decide) rfl) ?_
  refine xm_E_s r_X10_viewOf_11 rfl rfl ?_
  refine xm_E_cs [.int l1] [] r_X10_viewOf_12 rfl rfl rfl (Nat.le_of_ble_eq_true rfl) rfl q1 ?_
  exact xm_E_iret r_X10_viewOf_13 rfl rfl
theorem p_X10_viewOf_0_4 {X : xm_X} {P : List xm_M} {d : Nat} {h : xm_H} {l0 : Nat} {l1 : Int32} {l2 : Int32} {l3 : Int32} {h0 : xm_H} {r0 : Int32} (q0 : l3 = (4 : Int32)) (q1 : xm_V X P d 42 [.int l1] h (some (.int r0)) h0) : xm_E X P d co_X10_viewOf 0 [some (.ref l0), some (.int l1), some (.int l2), some (.int l3)] [] h (some (.int r0)) h0 := by
  refine xm_E_s r_X10_viewOf_0 rfl rfl ?_
  refine xm_E_s r_X10_viewOf_1 rfl (xm_T_tab (4 : Int32) 14 rfl q0 (by decide) rfl) ?_
  refine xm_E_s r_X10_viewOf_14 rfl rfl ?_
  refine xm_E_cs [.int l1] [] r_X10_viewOf_15 rfl rfl rfl (Nat.le_of_ble_eq_true rfl) rfl q1 ?_
  exact xm_E_iret r_X10_viewOf_16 rfl rfl
theorem p_X10_viewOf_0_5 {X : xm_X} {P : List xm_M} {d : Nat} {h : xm_H} {l0 : Nat} {l1 : Int32} {l2 : Int32} {l3 : Int32} {v0 : Nat} {v1 : Nat} {h2 : xm_H} {r2 : Int32} (q0 : l3 = (5 : Int32)) (q1 : X.1[l0]? = some (.inr 9)) (q2 : h.2.2 l0 1 = some v0) (q3 : X.1[v0]? = some (.inr 8)) (q4 : h.2.2 v0 0 = some v1) (q5 : xm_V X P d 43 [.ref v1, .int l1] h (some (.int r2)) h2) (q6 : X.1[v1]? = some (.inr 0)) : xm_E X P d co_X10_viewOf 0 [some (.ref l0), some (.int l1), some (.int l2), some (.int l3)] [] h (some (.int r2)) h2 := by
  refine xm_E_s r_X10_viewOf_0 rfl rfl ?_
  refine xm_E_s r_X10_viewOf_1 rfl (xm_T_tab (5 : Int32) 17 rfl q0 (by decide) rfl) ?_
  refine xm_E_s r_X10_viewOf_17 rfl rfl ?_
  refine xm_E_s r_X10_viewOf_18 rfl (xm_T_gr rfl q1 rfl rfl q2) ?_
  refine xm_E_s r_X10_viewOf_19 rfl (xm_T_gr rfl q3 rfl rfl q4) ?_
  refine xm_E_s r_X10_viewOf_20 rfl rfl ?_
  refine xm_E_cv [.ref v1, .int l1] [] r_X10_viewOf_21 rfl rfl (Nat.le_of_ble_eq_true rfl) (xm_rc q6 (by decide)) rfl q5 ?_
  exact xm_E_iret r_X10_viewOf_22 rfl rfl
theorem p_X10_viewOf_0_6 {X : xm_X} {P : List xm_M} {d : Nat} {h : xm_H} {l0 : Nat} {l1 : Int32} {l2 : Int32} {l3 : Int32} {v0 : Nat} {v1 : Nat} {h2 : xm_H} {r2 : Int32} (q0 : l3 = (6 : Int32)) (q1 : X.1[l0]? = some (.inr 9)) (q2 : h.2.2 l0 1 = some v0) (q3 : X.1[v0]? = some (.inr 8)) (q4 : h.2.2 v0 0 = some v1) (q5 : xm_V X P d 44 [.ref v1, .int l1] h (some (.int r2)) h2) (q6 : X.1[v1]? = some (.inr 0)) : xm_E X P d co_X10_viewOf 0 [some (.ref l0), some (.int l1), some (.int l2), some (.int l3)] [] h (some (.int r2)) h2 := by
  refine xm_E_s r_X10_viewOf_0 rfl rfl ?_
  refine xm_E_s r_X10_viewOf_1 rfl (xm_T_tab (6 : Int32) 23 rfl q0 (by decide) rfl) ?_
  refine xm_E_s r_X10_viewOf_23 rfl rfl ?_
  refine xm_E_s r_X10_viewOf_24 rfl (xm_T_gr rfl q1 rfl rfl q2) ?_
  refine xm_E_s r_X10_viewOf_25 rfl (xm_T_gr rfl q3 rfl rfl q4) ?_
  refine xm_E_s r_X10_viewOf_26 rfl rfl ?_
  refine xm_E_cv [.ref v1, .int l1] [] r_X10_viewOf_27 rfl rfl (Nat.le_of_ble_eq_true rfl) (xm_rc q6 (by decide)) rfl q5 ?_
  exact xm_E_iret r_X10_viewOf_28 rfl rfl
theorem p_X10_viewOf_0_7 {X : xm_X} {P : List xm_M} {d : Nat} {h : xm_H} {l0 : Nat} {l1 : Int32} {l2 : Int32} {l3 : Int32} (q0 : l3 = (7 : Int32)) : xm_E X P d co_X10_viewOf 0 [some (.ref l0), some (.int l1), some (.int l2), some (.int l3)] [] h (some (.int l2)) h := by
  refine xm_E_s r_X10_viewOf_0 rfl rfl ?_
  refine xm_E_s r_X10_viewOf_1 rfl (xm_T_tab (7 : Int32) 29 rfl q0 (by decide) rfl) ?_
  refine xm_E_s r_X10_viewOf_29 rfl rfl ?_
  exact xm_E_iret r_X10_viewOf_30 rfl rfl
theorem p_X10_viewOf_0_8 {X : xm_X} {P : List xm_M} {d : Nat} {h : xm_H} {l0 : Nat} {l1 : Int32} {l2 : Int32} {l3 : Int32} (q0 : l3.toInt < 0 ∨ 7 < l3.toInt) : xm_E X P d co_X10_viewOf 0 [some (.ref l0), some (.int l1), some (.int l2), some (.int l3)] [] h (some (.int (-100 : Int32))) h := by
  refine xm_E_s r_X10_viewOf_0 rfl rfl ?_
  refine xm_E_s r_X10_viewOf_1 rfl (xm_T_tabd rfl q0) ?_
  refine xm_E_s r_X10_viewOf_31 rfl rfl ?_
  exact xm_E_iret r_X10_viewOf_32 rfl rfl
theorem r_X10_can_0 : co_X10_can[0]? = some ((0, .aload_n 0, 0, 0, 0, 0, 0, 0, []) : xm_I) := rfl
theorem r_X10_can_1 : co_X10_can[1]? = some ((1, .getfield 19, 482, 9, 1, 2, 0, 0, []) : xm_I) := rfl
theorem r_X10_can_2 : co_X10_can[2]? = some ((4, .invokevirtual 113, 696, 36, 1, 8, 0, 0, []) : xm_I) := rfl
theorem r_X10_can_3 : co_X10_can[3]? = some ((7, .ifCond .ne 10, 0, 0, 7, 0, 0, 0, []) : xm_I) := rfl
theorem r_X10_can_4 : co_X10_can[4]? = some ((10, .iload_n 1, 0, 0, 0, 0, 0, 0, []) : xm_I) := rfl
theorem r_X10_can_5 : co_X10_can[5]? = some ((11, .invokestatic 126, 734, 46, 1, 0, 0, 0, []) : xm_I) := rfl
theorem r_X10_can_6 : co_X10_can[6]? = some ((14, .ifCond .ne 6, 0, 0, 9, 0, 0, 0, []) : xm_I) := rfl
theorem r_X10_can_7 : co_X10_can[7]? = some ((17, .bipush (-2), 0, 0, 0, 0, (-2), 0, []) : xm_I) := rfl
theorem r_X10_can_8 : co_X10_can[8]? = some ((19, .ireturn, 0, 0, 0, 0, 0, 0, []) : xm_I) := rfl
theorem r_X10_can_9 : co_X10_can[9]? = some ((20, .aload_n 0, 0, 0, 0, 0, 0, 0, []) : xm_I) := rfl
theorem r_X10_can_10 : co_X10_can[10]? = some ((21, .getfield 19, 482, 9, 1, 2, 0, 0, []) : xm_I) := rfl
theorem r_X10_can_11 : co_X10_can[11]? = some ((24, .getfield 116, 311, 8, 3, 0, 0, 0, []) : xm_I) := rfl
theorem r_X10_can_12 : co_X10_can[12]? = some ((27, .iload_n 1, 0, 0, 0, 0, 0, 0, []) : xm_I) := rfl
theorem r_X10_can_13 : co_X10_can[13]? = some ((28, .aload_n 0, 0, 0, 0, 0, 0, 0, []) : xm_I) := rfl
theorem r_X10_can_14 : co_X10_can[14]? = some ((29, .getfield 19, 482, 9, 1, 2, 0, 0, []) : xm_I) := rfl
theorem r_X10_can_15 : co_X10_can[15]? = some ((32, .getfield 103, 305, 8, 0, 2, 0, 0, []) : xm_I) := rfl
theorem r_X10_can_16 : co_X10_can[16]? = some ((35, .getfield 130, 219, 0, 4, 0, 0, 0, []) : xm_I) := rfl
theorem r_X10_can_17 : co_X10_can[17]? = some ((38, .invokestatic 133, 737, 47, 3, 0, 0, 0, []) : xm_I) := rfl
theorem r_X10_can_18 : co_X10_can[18]? = some ((41, .ifCond .eq 7, 0, 0, 21, 0, 0, 0, []) : xm_I) := rfl
theorem r_X10_can_19 : co_X10_can[19]? = some ((44, .iconst 1, 0, 0, 0, 0, 1, 0, []) : xm_I) := rfl
theorem r_X10_can_20 : co_X10_can[20]? = some ((45, .goto 4, 0, 0, 22, 0, 0, 0, []) : xm_I) := rfl
theorem r_X10_can_21 : co_X10_can[21]? = some ((48, .iconst 0, 0, 0, 0, 0, 0, 0, []) : xm_I) := rfl
theorem r_X10_can_22 : co_X10_can[22]? = some ((49, .ireturn, 0, 0, 0, 0, 0, 0, []) : xm_I) := rfl
theorem p_X10_can_0_0 {X : xm_X} {P : List xm_M} {d : Nat} {h : xm_H} {l0 : Nat} {l1 : Int32} {v0 : Nat} {h1 : xm_H} {r1 : Int32} {h2 : xm_H} {r2 : Int32} (q0 : X.1[l0]? = some (.inr 9)) (q1 : h.2.2 l0 1 = some v0) (q2 : xm_V X P d 36 [.ref v0] h (some (.int r1)) h1) (q3 : X.1[v0]? = some (.inr 8)) (q4 : r1 = (0 : Int32)) (q5 : xm_V X P d 46 [.int l1] h1 (some (.int r2)) h2) (q6 : r2 = (0 : Int32)) : xm_E X P d co_X10_can 0 [some (.ref l0), some (.int l1)] [] h (some (.int (-2 : Int32))) h2 := by
  refine xm_E_s r_X10_can_0 rfl rfl ?_
  refine xm_E_s r_X10_can_1 rfl (xm_T_gr rfl q0 rfl rfl q1) ?_
  refine xm_E_cv [.ref v0] [] r_X10_can_2 rfl rfl (Nat.le_of_ble_eq_true rfl) (xm_rc q3 (by decide)) rfl q2 ?_
  refine xm_E_s r_X10_can_3 rfl rfl ?_
  refine xm_E_t q4 ?_
  refine xm_E_s r_X10_can_4 rfl rfl ?_
  refine xm_E_cs [.int l1] [] r_X10_can_5 rfl rfl rfl (Nat.le_of_ble_eq_true rfl) rfl q5 ?_
  refine xm_E_s r_X10_can_6 rfl rfl ?_
  refine xm_E_t q6 ?_
  refine xm_E_s r_X10_can_7 rfl rfl ?_
  exact xm_E_iret r_X10_can_8 rfl rfl
theorem p_X10_can_0_1 {X : xm_X} {P : List xm_M} {d : Nat} {h : xm_H} {l0 : Nat} {l1 : Int32} {v0 : Nat} {h1 : xm_H} {r1 : Int32} {h2 : xm_H} {r2 : Int32} {v3 : Nat} {v4 : Nat} {h5 : xm_H} {r5 : Int32} (q0 : X.1[l0]? = some (.inr 9)) (q1 : h.2.2 l0 1 = some v0) (q2 : xm_V X P d 36 [.ref v0] h (some (.int r1)) h1) (q3 : X.1[v0]? = some (.inr 8)) (q4 : r1 = (0 : Int32)) (q5 : xm_V X P d 46 [.int l1] h1 (some (.int r2)) h2) (q6 : ¬ (r2 = (0 : Int32))) (q7 : h2.2.2 l0 1 = some v3) (q8 : X.1[v3]? = some (.inr 8)) (q9 : h2.2.2 v3 0 = some v4) (q10 : X.1[v4]? = some (.inr 0)) (q11 : xm_V X P d 47 [.int (h2.1 v3 3), .int l1, .int (h2.1 v4 4)] h2 (some (.int r5)) h5) (q12 : r5 = (0 : Int32)) : xm_E X P d co_X10_can 0 [some (.ref l0), some (.int l1)] [] h (some (.int (0 : Int32))) h5 := by
  refine xm_E_s r_X10_can_0 rfl rfl ?_
  refine xm_E_s r_X10_can_1 rfl (xm_T_gr rfl q0 rfl rfl q1) ?_
  refine xm_E_cv [.ref v0] [] r_X10_can_2 rfl rfl (Nat.le_of_ble_eq_true rfl) (xm_rc q3 (by decide)) rfl q2 ?_
  refine xm_E_s r_X10_can_3 rfl rfl ?_
  refine xm_E_t q4 ?_
  refine xm_E_s r_X10_can_4 rfl rfl ?_
  refine xm_E_cs [.int l1] [] r_X10_can_5 rfl rfl rfl (Nat.le_of_ble_eq_true rfl) rfl q5 ?_
  refine xm_E_s r_X10_can_6 rfl rfl ?_
  refine xm_E_f q6 ?_
  refine xm_E_s r_X10_can_9 rfl rfl ?_
  refine xm_E_s r_X10_can_10 rfl (xm_T_gr rfl q0 rfl rfl q7) ?_
  refine xm_E_s r_X10_can_11 rfl (xm_T_gi rfl q8 rfl (Or.inl rfl)) ?_
  refine xm_E_s r_X10_can_12 rfl rfl ?_
  refine xm_E_s r_X10_can_13 rfl rfl ?_
  refine xm_E_s r_X10_can_14 rfl (xm_T_gr rfl q0 rfl rfl q7) ?_
  refine xm_E_s r_X10_can_15 rfl (xm_T_gr rfl q8 rfl rfl q9) ?_
  refine xm_E_s r_X10_can_16 rfl (xm_T_gi rfl q10 rfl (Or.inl rfl)) ?_
  refine xm_E_cs [.int (h2.1 v3 3), .int l1, .int (h2.1 v4 4)] [] r_X10_can_17 rfl rfl rfl (Nat.le_of_ble_eq_true rfl) rfl q11 ?_
  refine xm_E_s r_X10_can_18 rfl rfl ?_
  refine xm_E_t q12 ?_
  refine xm_E_s r_X10_can_21 rfl rfl ?_
  exact xm_E_iret r_X10_can_22 rfl rfl
theorem p_X10_can_0_2 {X : xm_X} {P : List xm_M} {d : Nat} {h : xm_H} {l0 : Nat} {l1 : Int32} {v0 : Nat} {h1 : xm_H} {r1 : Int32} {h2 : xm_H} {r2 : Int32} {v3 : Nat} {v4 : Nat} {h5 : xm_H} {r5 : Int32} (q0 : X.1[l0]? = some (.inr 9)) (q1 : h.2.2 l0 1 = some v0) (q2 : xm_V X P d 36 [.ref v0] h (some (.int r1)) h1) (q3 : X.1[v0]? = some (.inr 8)) (q4 : r1 = (0 : Int32)) (q5 : xm_V X P d 46 [.int l1] h1 (some (.int r2)) h2) (q6 : ¬ (r2 = (0 : Int32))) (q7 : h2.2.2 l0 1 = some v3) (q8 : X.1[v3]? = some (.inr 8)) (q9 : h2.2.2 v3 0 = some v4) (q10 : X.1[v4]? = some (.inr 0)) (q11 : xm_V X P d 47 [.int (h2.1 v3 3), .int l1, .int (h2.1 v4 4)] h2 (some (.int r5)) h5) (q12 : ¬ (r5 = (0 : Int32))) : xm_E X P d co_X10_can 0 [some (.ref l0), some (.int l1)] [] h (some (.int (1 : Int32))) h5 := by
  refine xm_E_s r_X10_can_0 rfl rfl ?_
  refine xm_E_s r_X10_can_1 rfl (xm_T_gr rfl q0 rfl rfl q1) ?_
  refine xm_E_cv [.ref v0] [] r_X10_can_2 rfl rfl (Nat.le_of_ble_eq_true rfl) (xm_rc q3 (by decide)) rfl q2 ?_
  refine xm_E_s r_X10_can_3 rfl rfl ?_
  refine xm_E_t q4 ?_
  refine xm_E_s r_X10_can_4 rfl rfl ?_
  refine xm_E_cs [.int l1] [] r_X10_can_5 rfl rfl rfl (Nat.le_of_ble_eq_true rfl) rfl q5 ?_
  refine xm_E_s r_X10_can_6 rfl rfl ?_
  refine xm_E_f q6 ?_
  refine xm_E_s r_X10_can_9 rfl rfl ?_
  refine xm_E_s r_X10_can_10 rfl (xm_T_gr rfl q0 rfl rfl q7) ?_
  refine xm_E_s r_X10_can_11 rfl (xm_T_gi rfl q8 rfl (Or.inl rfl)) ?_
  refine xm_E_s r_X10_can_12 rfl rfl ?_
  refine xm_E_s r_X10_can_13 rfl rfl ?_
  refine xm_E_s r_X10_can_14 rfl (xm_T_gr rfl q0 rfl rfl q7) ?_
  refine xm_E_s r_X10_can_15 rfl (xm_T_gr rfl q8 rfl rfl q9) ?_
  refine xm_E_s r_X10_can_16 rfl (xm_T_gi rfl q10 rfl (Or.inl rfl)) ?_
  refine xm_E_cs [.int (h2.1 v3 3), .int l1, .int (h2.1 v4 4)] [] r_X10_can_17 rfl rfl rfl (Nat.le_of_ble_eq_true rfl) rfl q11 ?_
  refine xm_E_s r_X10_can_18 rfl rfl ?_
  refine xm_E_f q12 ?_
  refine xm_E_s r_X10_can_19 rfl rfl ?_
  refine xm_E_s r_X10_can_20 rfl rfl ?_
  exact xm_E_iret r_X10_can_22 rfl rfl
theorem p_X10_can_0_3 {X : xm_X} {P : List xm_M} {d : Nat} {h : xm_H} {l0 : Nat} {l1 : Int32} {v0 : Nat} {h1 : xm_H} {r1 : Int32} (q0 : X.1[l0]? = some (.inr 9)) (q1 : h.2.2 l0 1 = some v0) (q2 : xm_V X P d 36 [.ref v0] h (some (.int r1)) h1) (q3 : X.1[v0]? = some (.inr 8)) (q4 : ¬ (r1 = (0 : Int32))) : xm_E X P d co_X10_can 0 [some (.ref l0), some (.int l1)] [] h (some (.int (-2 : Int32))) h1 := by
  refine xm_E_s r_X10_can_0 rfl rfl ?_
  refine xm_E_s r_X10_can_1 rfl (xm_T_gr rfl q0 rfl rfl q1) ?_
  refine xm_E_cv [.ref v0] [] r_X10_can_2 rfl rfl (Nat.le_of_ble_eq_true rfl) (xm_rc q3 (by decide)) rfl q2 ?_
  refine xm_E_s r_X10_can_3 rfl rfl ?_
  refine xm_E_f q4 ?_
  refine xm_E_s r_X10_can_7 rfl rfl ?_
  exact xm_E_iret r_X10_can_8 rfl rfl
theorem r_X10_isMove_0 : co_X10_isMove[0]? = some ((0, .iload_n 0, 0, 0, 0, 0, 0, 0, []) : xm_I) := rfl
theorem r_X10_isMove_1 : co_X10_isMove[1]? = some ((1, .ifCond .lt 13, 0, 0, 7, 0, 0, 0, []) : xm_I) := rfl
theorem r_X10_isMove_2 : co_X10_isMove[2]? = some ((4, .iload_n 0, 0, 0, 0, 0, 0, 0, []) : xm_I) := rfl
theorem r_X10_isMove_3 : co_X10_isMove[3]? = some ((5, .bipush 10, 0, 0, 0, 0, 10, 0, []) : xm_I) := rfl
theorem r_X10_isMove_4 : co_X10_isMove[4]? = some ((7, .if_icmp .ge 7, 0, 0, 7, 0, 0, 0, []) : xm_I) := rfl
theorem r_X10_isMove_5 : co_X10_isMove[5]? = some ((10, .iconst 1, 0, 0, 0, 0, 1, 0, []) : xm_I) := rfl
theorem r_X10_isMove_6 : co_X10_isMove[6]? = some ((11, .goto 4, 0, 0, 8, 0, 0, 0, []) : xm_I) := rfl
theorem r_X10_isMove_7 : co_X10_isMove[7]? = some ((14, .iconst 0, 0, 0, 0, 0, 0, 0, []) : xm_I) := rfl
theorem r_X10_isMove_8 : co_X10_isMove[8]? = some ((15, .ireturn, 0, 0, 0, 3, 0, 0, []) : xm_I) := rfl
theorem p_X10_isMove_0_0 {X : xm_X} {P : List xm_M} {d : Nat} {h : xm_H} {l0 : Int32} (q0 : l0 < (0 : Int32)) : xm_E X P d co_X10_isMove 0 [some (.int l0)] [] h (some (.int (0 : Int32))) h := by
  refine xm_E_s r_X10_isMove_0 rfl rfl ?_
  refine xm_E_s r_X10_isMove_1 rfl rfl ?_
  refine xm_E_t q0 ?_
  refine xm_E_s r_X10_isMove_7 rfl rfl ?_
  exact xm_E_iret r_X10_isMove_8 rfl rfl
theorem p_X10_isMove_0_1 {X : xm_X} {P : List xm_M} {d : Nat} {h : xm_H} {l0 : Int32} (q0 : ¬ (l0 < (0 : Int32))) (q1 : (10 : Int32) ≤ l0) : xm_E X P d co_X10_isMove 0 [some (.int l0)] [] h (some (.int (0 : Int32))) h := by
  refine xm_E_s r_X10_isMove_0 rfl rfl ?_
  refine xm_E_s r_X10_isMove_1 rfl rfl ?_
  refine xm_E_f q0 ?_
  refine xm_E_s r_X10_isMove_2 rfl rfl ?_
  refine xm_E_s r_X10_isMove_3 rfl rfl ?_
  refine xm_E_s r_X10_isMove_4 rfl rfl ?_
  refine xm_E_t q1 ?_
  refine xm_E_s r_X10_isMove_7 rfl rfl ?_
  exact xm_E_iret r_X10_isMove_8 rfl rfl
theorem p_X10_isMove_0_2 {X : xm_X} {P : List xm_M} {d : Nat} {h : xm_H} {l0 : Int32} (q0 : ¬ (l0 < (0 : Int32))) (q1 : ¬ ((10 : Int32) ≤ l0)) : xm_E X P d co_X10_isMove 0 [some (.int l0)] [] h (some (.int (1 : Int32))) h := by
  refine xm_E_s r_X10_isMove_0 rfl rfl ?_
  refine xm_E_s r_X10_isMove_1 rfl rfl ?_
  refine xm_E_f q0 ?_
  refine xm_E_s r_X10_isMove_2 rfl rfl ?_
  refine xm_E_s r_X10_isMove_3 rfl rfl ?_
  refine xm_E_s r_X10_isMove_4 rfl rfl ?_
  refine xm_E_f q1 ?_
  refine xm_E_s r_X10_isMove_5 rfl rfl ?_
  refine xm_E_s r_X10_isMove_6 rfl rfl ?_
  exact xm_E_iret r_X10_isMove_8 rfl rfl
theorem r_X10_moves_0 : co_X10_moves[0]? = some ((0, .aload_n 0, 0, 0, 0, 0, 0, 0, []) : xm_I) := rfl
theorem r_X10_moves_1 : co_X10_moves[1]? = some ((1, .getfield 19, 482, 9, 1, 2, 0, 0, []) : xm_I) := rfl
theorem r_X10_moves_2 : co_X10_moves[2]? = some ((4, .invokevirtual 113, 696, 36, 1, 8, 0, 0, []) : xm_I) := rfl
theorem r_X10_moves_3 : co_X10_moves[3]? = some ((7, .ifCond .eq 6, 0, 0, 6, 0, 0, 0, []) : xm_I) := rfl
theorem r_X10_moves_4 : co_X10_moves[4]? = some ((10, .bipush (-2), 0, 0, 0, 0, (-2), 0, []) : xm_I) := rfl
theorem r_X10_moves_5 : co_X10_moves[5]? = some ((12, .ireturn, 0, 0, 0, 0, 0, 0, []) : xm_I) := rfl
theorem r_X10_moves_6 : co_X10_moves[6]? = some ((13, .iconst 0, 0, 0, 0, 0, 0, 0, []) : xm_I) := rfl
theorem r_X10_moves_7 : co_X10_moves[7]? = some ((14, .istore_n 1, 0, 0, 0, 0, 0, 0, []) : xm_I) := rfl
theorem r_X10_moves_8 : co_X10_moves[8]? = some ((15, .iconst 0, 0, 0, 0, 0, 0, 0, []) : xm_I) := rfl
theorem r_X10_moves_9 : co_X10_moves[9]? = some ((16, .istore_n 2, 0, 0, 0, 0, 0, 0, []) : xm_I) := rfl
theorem r_X10_moves_10 : co_X10_moves[10]? = some ((17, .iload_n 2, 0, 0, 0, 0, 0, 0, []) : xm_I) := rfl
theorem r_X10_moves_11 : co_X10_moves[11]? = some ((18, .bipush 10, 0, 0, 0, 0, 10, 0, []) : xm_I) := rfl
theorem r_X10_moves_12 : co_X10_moves[12]? = some ((20, .if_icmp .ge 39, 0, 0, 31, 0, 0, 0, []) : xm_I) := rfl
theorem r_X10_moves_13 : co_X10_moves[13]? = some ((23, .aload_n 0, 0, 0, 0, 0, 0, 0, []) : xm_I) := rfl
theorem r_X10_moves_14 : co_X10_moves[14]? = some ((24, .getfield 19, 482, 9, 1, 2, 0, 0, []) : xm_I) := rfl
theorem r_X10_moves_15 : co_X10_moves[15]? = some ((27, .getfield 116, 311, 8, 3, 0, 0, 0, []) : xm_I) := rfl
theorem r_X10_moves_16 : co_X10_moves[16]? = some ((30, .iload_n 2, 0, 0, 0, 0, 0, 0, []) : xm_I) := rfl
theorem r_X10_moves_17 : co_X10_moves[17]? = some ((31, .aload_n 0, 0, 0, 0, 0, 0, 0, []) : xm_I) := rfl
theorem r_X10_moves_18 : co_X10_moves[18]? = some ((32, .getfield 19, 482, 9, 1, 2, 0, 0, []) : xm_I) := rfl
theorem r_X10_moves_19 : co_X10_moves[19]? = some ((35, .getfield 103, 305, 8, 0, 2, 0, 0, []) : xm_I) := rfl
theorem r_X10_moves_20 : co_X10_moves[20]? = some ((38, .getfield 130, 219, 0, 4, 0, 0, 0, []) : xm_I) := rfl
theorem r_X10_moves_21 : co_X10_moves[21]? = some ((41, .invokestatic 133, 737, 47, 3, 0, 0, 0, []) : xm_I) := rfl
theorem r_X10_moves_22 : co_X10_moves[22]? = some ((44, .ifCond .eq 9, 0, 0, 29, 0, 0, 0, []) : xm_I) := rfl
theorem r_X10_moves_23 : co_X10_moves[23]? = some ((47, .iload_n 1, 0, 0, 0, 0, 0, 0, []) : xm_I) := rfl
theorem r_X10_moves_24 : co_X10_moves[24]? = some ((48, .iconst 1, 0, 0, 0, 0, 1, 0, []) : xm_I) := rfl
theorem r_X10_moves_25 : co_X10_moves[25]? = some ((49, .iload_n 2, 0, 0, 0, 0, 0, 0, []) : xm_I) := rfl
theorem r_X10_moves_26 : co_X10_moves[26]? = some ((50, .ishl, 0, 0, 0, 0, 0, 0, []) : xm_I) := rfl
theorem r_X10_moves_27 : co_X10_moves[27]? = some ((51, .ior, 0, 0, 0, 0, 0, 0, []) : xm_I) := rfl
theorem r_X10_moves_28 : co_X10_moves[28]? = some ((52, .istore_n 1, 0, 0, 0, 0, 0, 0, []) : xm_I) := rfl
theorem r_X10_moves_29 : co_X10_moves[29]? = some ((53, .iinc 2 1, 0, 0, 0, 0, 1, 0, []) : xm_I) := rfl
theorem r_X10_moves_30 : co_X10_moves[30]? = some ((56, .goto (-39), 0, 0, 10, 0, 0, 0, []) : xm_I) := rfl
theorem r_X10_moves_31 : co_X10_moves[31]? = some ((59, .iload_n 1, 0, 0, 0, 0, 0, 0, []) : xm_I) := rfl
theorem r_X10_moves_32 : co_X10_moves[32]? = some ((60, .ireturn, 0, 0, 0, 0, 0, 0, []) : xm_I) := rfl
theorem p_X10_moves_0_0 {X : xm_X} {P : List xm_M} {d : Nat} {h : xm_H} {l0 : Nat} {v0 : Nat} {h1 : xm_H} {r1 : Int32} {ro : Option Value} {ho : xm_H} (q0 : X.1[l0]? = some (.inr 9)) (q1 : h.2.2 l0 1 = some v0) (q2 : xm_V X P d 36 [.ref v0] h (some (.int r1)) h1) (q3 : X.1[v0]? = some (.inr 8)) (q4 : r1 = (0 : Int32)) (K : xm_E X P d co_X10_moves 10 [some (.ref l0), some (.int (0 : Int32)), some (.int (0 : Int32))] [] h1 ro ho) : xm_E X P d co_X10_moves 0 [some (.ref l0), none, none] [] h ro ho := by
  refine xm_E_s r_X10_moves_0 rfl rfl ?_
  refine xm_E_s r_X10_moves_1 rfl (xm_T_gr rfl q0 rfl rfl q1) ?_
  refine xm_E_cv [.ref v0] [] r_X10_moves_2 rfl rfl (Nat.le_of_ble_eq_true rfl) (xm_rc q3 (by decide)) rfl q2 ?_
  refine xm_E_s r_X10_moves_3 rfl rfl ?_
  refine xm_E_t q4 ?_
  refine xm_E_s r_X10_moves_6 rfl rfl ?_
  refine xm_E_s (ls1 := [some (.ref l0), some (.int (0 : Int32)), none]) r_X10_moves_7 rfl rfl ?_
  refine xm_E_s r_X10_moves_8 rfl rfl ?_
  refine xm_E_s (ls1 := [some (.ref l0), some (.int (0 : Int32)), some (.int (0 : Int32))]) r_X10_moves_9 rfl rfl ?_
  exact K
theorem p_X10_moves_0_1 {X : xm_X} {P : List xm_M} {d : Nat} {h : xm_H} {l0 : Nat} {v0 : Nat} {h1 : xm_H} {r1 : Int32} (q0 : X.1[l0]? = some (.inr 9)) (q1 : h.2.2 l0 1 = some v0) (q2 : xm_V X P d 36 [.ref v0] h (some (.int r1)) h1) (q3 : X.1[v0]? = some (.inr 8)) (q4 : ¬ (r1 = (0 : Int32))) : xm_E X P d co_X10_moves 0 [some (.ref l0), none, none] [] h (some (.int (-2 : Int32))) h1 := by
  refine xm_E_s r_X10_moves_0 rfl rfl ?_
  refine xm_E_s r_X10_moves_1 rfl (xm_T_gr rfl q0 rfl rfl q1) ?_
  refine xm_E_cv [.ref v0] [] r_X10_moves_2 rfl rfl (Nat.le_of_ble_eq_true rfl) (xm_rc q3 (by decide)) rfl q2 ?_
  refine xm_E_s r_X10_moves_3 rfl rfl ?_
  refine xm_E_f q4 ?_
  refine xm_E_s r_X10_moves_4 rfl rfl ?_
  exact xm_E_iret r_X10_moves_5 rfl rfl
theorem p_X10_moves_10_0 {X : xm_X} {P : List xm_M} {d : Nat} {h : xm_H} {l0 : Nat} {l1 : Int32} {l2 : Int32} (q0 : (10 : Int32) ≤ l2) : xm_E X P d co_X10_moves 10 [some (.ref l0), some (.int l1), some (.int l2)] [] h (some (.int l1)) h := by
  refine xm_E_s r_X10_moves_10 rfl rfl ?_
  refine xm_E_s r_X10_moves_11 rfl rfl ?_
  refine xm_E_s r_X10_moves_12 rfl rfl ?_
  refine xm_E_t q0 ?_
  refine xm_E_s r_X10_moves_31 rfl rfl ?_
  exact xm_E_iret r_X10_moves_32 rfl rfl
theorem p_X10_moves_10_1 {X : xm_X} {P : List xm_M} {d : Nat} {h : xm_H} {l0 : Nat} {l1 : Int32} {l2 : Int32} {v0 : Nat} {v1 : Nat} {h2 : xm_H} {r2 : Int32} {ro : Option Value} {ho : xm_H} (q0 : ¬ ((10 : Int32) ≤ l2)) (q1 : X.1[l0]? = some (.inr 9)) (q2 : h.2.2 l0 1 = some v0) (q3 : X.1[v0]? = some (.inr 8)) (q4 : h.2.2 v0 0 = some v1) (q5 : X.1[v1]? = some (.inr 0)) (q6 : xm_V X P d 47 [.int (h.1 v0 3), .int l2, .int (h.1 v1 4)] h (some (.int r2)) h2) (q7 : r2 = (0 : Int32)) (K : xm_E X P d co_X10_moves 10 [some (.ref l0), some (.int l1), some (.int (l2 + (1 : Int32)))] [] h2 ro ho) : xm_E X P d co_X10_moves 10 [some (.ref l0), some (.int l1), some (.int l2)] [] h ro ho := by
  refine xm_E_s r_X10_moves_10 rfl rfl ?_
  refine xm_E_s r_X10_moves_11 rfl rfl ?_
  refine xm_E_s r_X10_moves_12 rfl rfl ?_
  refine xm_E_f q0 ?_
  refine xm_E_s r_X10_moves_13 rfl rfl ?_
  refine xm_E_s r_X10_moves_14 rfl (xm_T_gr rfl q1 rfl rfl q2) ?_
  refine xm_E_s r_X10_moves_15 rfl (xm_T_gi rfl q3 rfl (Or.inl rfl)) ?_
  refine xm_E_s r_X10_moves_16 rfl rfl ?_
  refine xm_E_s r_X10_moves_17 rfl rfl ?_
  refine xm_E_s r_X10_moves_18 rfl (xm_T_gr rfl q1 rfl rfl q2) ?_
  refine xm_E_s r_X10_moves_19 rfl (xm_T_gr rfl q3 rfl rfl q4) ?_
  refine xm_E_s r_X10_moves_20 rfl (xm_T_gi rfl q5 rfl (Or.inl rfl)) ?_
  refine xm_E_cs [.int (h.1 v0 3), .int l2, .int (h.1 v1 4)] [] r_X10_moves_21 rfl rfl rfl (Nat.le_of_ble_eq_true rfl) rfl q6 ?_
  refine xm_E_s r_X10_moves_22 rfl rfl ?_
  refine xm_E_t q7 ?_
  refine xm_E_s (ls1 := [some (.ref l0), some (.int l1), some (.int (l2 + (1 : Int32)))]) r_X10_moves_29 rfl rfl ?_
  refine xm_E_s r_X10_moves_30 rfl rfl ?_
  exact K
theorem p_X10_moves_10_2 {X : xm_X} {P : List xm_M} {d : Nat} {h : xm_H} {l0 : Nat} {l1 : Int32} {l2 : Int32} {v0 : Nat} {v1 : Nat} {h2 : xm_H} {r2 : Int32} {ro : Option Value} {ho : xm_H} (q0 : ¬ ((10 : Int32) ≤ l2)) (q1 : X.1[l0]? = some (.inr 9)) (q2 : h.2.2 l0 1 = some v0) (q3 : X.1[v0]? = some (.inr 8)) (q4 : h.2.2 v0 0 = some v1) (q5 : X.1[v1]? = some (.inr 0)) (q6 : xm_V X P d 47 [.int (h.1 v0 3), .int l2, .int (h.1 v1 4)] h (some (.int r2)) h2) (q7 : ¬ (r2 = (0 : Int32))) (K : xm_E X P d co_X10_moves 10 [some (.ref l0), some (.int (l1 ||| ((1 : Int32) <<< (l2 &&& 31)))), some (.int (l2 + (1 : Int32)))] [] h2 ro ho) : xm_E X P d co_X10_moves 10 [some (.ref l0), some (.int l1), some (.int l2)] [] h ro ho := by
  refine xm_E_s r_X10_moves_10 rfl rfl ?_
  refine xm_E_s r_X10_moves_11 rfl rfl ?_
  refine xm_E_s r_X10_moves_12 rfl rfl ?_
  refine xm_E_f q0 ?_
  refine xm_E_s r_X10_moves_13 rfl rfl ?_
  refine xm_E_s r_X10_moves_14 rfl (xm_T_gr rfl q1 rfl rfl q2) ?_
  refine xm_E_s r_X10_moves_15 rfl (xm_T_gi rfl q3 rfl (Or.inl rfl)) ?_
  refine xm_E_s r_X10_moves_16 rfl rfl ?_
  refine xm_E_s r_X10_moves_17 rfl rfl ?_
  refine xm_E_s r_X10_moves_18 rfl (xm_T_gr rfl q1 rfl rfl q2) ?_
  refine xm_E_s r_X10_moves_19 rfl (xm_T_gr rfl q3 rfl rfl q4) ?_
  refine xm_E_s r_X10_moves_20 rfl (xm_T_gi rfl q5 rfl (Or.inl rfl)) ?_
  refine xm_E_cs [.int (h.1 v0 3), .int l2, .int (h.1 v1 4)] [] r_X10_moves_21 rfl rfl rfl (Nat.le_of_ble_eq_true rfl) rfl q6 ?_
  refine xm_E_s r_X10_moves_22 rfl rfl ?_
  refine xm_E_f q7 ?_
  refine xm_E_s r_X10_moves_23 rfl rfl ?_
  refine xm_E_s r_X10_moves_24 rfl rfl ?_
  refine xm_E_s r_X10_moves_25 rfl rfl ?_
  refine xm_E_s r_X10_moves_26 rfl rfl ?_
  refine xm_E_s r_X10_moves_27 rfl rfl ?_
  refine xm_E_s (ls1 := [some (.ref l0), some (.int (l1 ||| ((1 : Int32) <<< (l2 &&& 31)))), some (.int l2)]) r_X10_moves_28 rfl rfl ?_
  refine xm_E_s (ls1 := [some (.ref l0), some (.int (l1 ||| ((1 : Int32) <<< (l2 &&& 31)))), some (.int (l2 + (1 : Int32)))]) r_X10_moves_29 rfl rfl ?_
  refine xm_E_s r_X10_moves_30 rfl rfl ?_
  exact K
theorem r_X10_fold_0 : co_X10_fold[0]? = some ((0, .aload_n 0, 0, 0, 0, 0, 0, 0, []) : xm_I) := rfl
theorem r_X10_fold_1 : co_X10_fold[1]? = some ((1, .getfield 19, 482, 9, 1, 2, 0, 0, []) : xm_I) := rfl
theorem r_X10_fold_2 : co_X10_fold[2]? = some ((4, .invokevirtual 113, 696, 36, 1, 8, 0, 0, []) : xm_I) := rfl
theorem r_X10_fold_3 : co_X10_fold[3]? = some ((7, .ifCond .ne 10, 0, 0, 7, 0, 0, 0, []) : xm_I) := rfl
theorem r_X10_fold_4 : co_X10_fold[4]? = some ((10, .iload_n 1, 0, 0, 0, 0, 0, 0, []) : xm_I) := rfl
theorem r_X10_fold_5 : co_X10_fold[5]? = some ((11, .invokestatic 126, 734, 46, 1, 0, 0, 0, []) : xm_I) := rfl
theorem r_X10_fold_6 : co_X10_fold[6]? = some ((14, .ifCond .ne 6, 0, 0, 9, 0, 0, 0, []) : xm_I) := rfl
theorem r_X10_fold_7 : co_X10_fold[7]? = some ((17, .bipush (-2), 0, 0, 0, 0, (-2), 0, []) : xm_I) := rfl
theorem r_X10_fold_8 : co_X10_fold[8]? = some ((19, .ireturn, 0, 0, 0, 0, 0, 0, []) : xm_I) := rfl
theorem r_X10_fold_9 : co_X10_fold[9]? = some ((20, .aload_n 0, 0, 0, 0, 0, 0, 0, []) : xm_I) := rfl
theorem r_X10_fold_10 : co_X10_fold[10]? = some ((21, .getfield 19, 482, 9, 1, 2, 0, 0, []) : xm_I) := rfl
theorem r_X10_fold_11 : co_X10_fold[11]? = some ((24, .iload_n 1, 0, 0, 0, 0, 0, 0, []) : xm_I) := rfl
theorem r_X10_fold_12 : co_X10_fold[12]? = some ((25, .invokevirtual 139, 754, 51, 2, 8, 0, 0, []) : xm_I) := rfl
theorem r_X10_fold_13 : co_X10_fold[13]? = some ((28, .ifCond .eq 17, 0, 0, 20, 0, 0, 0, []) : xm_I) := rfl
theorem r_X10_fold_14 : co_X10_fold[14]? = some ((31, .aload_n 0, 0, 0, 0, 0, 0, 0, []) : xm_I) := rfl
theorem r_X10_fold_15 : co_X10_fold[15]? = some ((32, .getfield 19, 482, 9, 1, 2, 0, 0, []) : xm_I) := rfl
theorem r_X10_fold_16 : co_X10_fold[16]? = some ((35, .getfield 103, 305, 8, 0, 2, 0, 0, []) : xm_I) := rfl
theorem r_X10_fold_17 : co_X10_fold[17]? = some ((38, .iload_n 1, 0, 0, 0, 0, 0, 0, []) : xm_I) := rfl
theorem r_X10_fold_18 : co_X10_fold[18]? = some ((39, .invokevirtual 142, 776, 54, 2, 0, 0, 0, []) : xm_I) := rfl
theorem r_X10_fold_19 : co_X10_fold[19]? = some ((42, .goto 5, 0, 0, 21, 0, 0, 0, []) : xm_I) := rfl
theorem r_X10_fold_20 : co_X10_fold[20]? = some ((45, .bipush (-5), 0, 0, 0, 0, (-5), 0, []) : xm_I) := rfl
theorem r_X10_fold_21 : co_X10_fold[21]? = some ((47, .ireturn, 0, 0, 0, 0, 0, 0, []) : xm_I) := rfl
theorem p_X10_fold_0_0 {X : xm_X} {P : List xm_M} {d : Nat} {h : xm_H} {l0 : Nat} {l1 : Int32} {v0 : Nat} {h1 : xm_H} {r1 : Int32} {h2 : xm_H} {r2 : Int32} (q0 : X.1[l0]? = some (.inr 9)) (q1 : h.2.2 l0 1 = some v0) (q2 : xm_V X P d 36 [.ref v0] h (some (.int r1)) h1) (q3 : X.1[v0]? = some (.inr 8)) (q4 : r1 = (0 : Int32)) (q5 : xm_V X P d 46 [.int l1] h1 (some (.int r2)) h2) (q6 : r2 = (0 : Int32)) : xm_E X P d co_X10_fold 0 [some (.ref l0), some (.int l1)] [] h (some (.int (-2 : Int32))) h2 := by
  refine xm_E_s r_X10_fold_0 rfl rfl ?_
  refine xm_E_s r_X10_fold_1 rfl (xm_T_gr rfl q0 rfl rfl q1) ?_
  refine xm_E_cv [.ref v0] [] r_X10_fold_2 rfl rfl (Nat.le_of_ble_eq_true rfl) (xm_rc q3 (by decide)) rfl q2 ?_
  refine xm_E_s r_X10_fold_3 rfl rfl ?_
  refine xm_E_t q4 ?_
  refine xm_E_s r_X10_fold_4 rfl rfl ?_
  refine xm_E_cs [.int l1] [] r_X10_fold_5 rfl rfl rfl (Nat.le_of_ble_eq_true rfl) rfl q5 ?_
  refine xm_E_s r_X10_fold_6 rfl rfl ?_
  refine xm_E_t q6 ?_
  refine xm_E_s r_X10_fold_7 rfl rfl ?_
  exact xm_E_iret r_X10_fold_8 rfl rfl
theorem p_X10_fold_0_1 {X : xm_X} {P : List xm_M} {d : Nat} {h : xm_H} {l0 : Nat} {l1 : Int32} {v0 : Nat} {h1 : xm_H} {r1 : Int32} {h2 : xm_H} {r2 : Int32} {v3 : Nat} {h4 : xm_H} {r4 : Int32} (q0 : X.1[l0]? = some (.inr 9)) (q1 : h.2.2 l0 1 = some v0) (q2 : xm_V X P d 36 [.ref v0] h (some (.int r1)) h1) (q3 : X.1[v0]? = some (.inr 8)) (q4 : r1 = (0 : Int32)) (q5 : xm_V X P d 46 [.int l1] h1 (some (.int r2)) h2) (q6 : ¬ (r2 = (0 : Int32))) (q7 : h2.2.2 l0 1 = some v3) (q8 : xm_V X P d 51 [.ref v3, .int l1] h2 (some (.int r4)) h4) (q9 : X.1[v3]? = some (.inr 8)) (q10 : r4 = (0 : Int32)) : xm_E X P d co_X10_fold 0 [some (.ref l0), some (.int l1)] [] h (some (.int (-5 : Int32))) h4 := by
  refine xm_E_s r_X10_fold_0 rfl rfl ?_
  refine xm_E_s r_X10_fold_1 rfl (xm_T_gr rfl q0 rfl rfl q1) ?_
  refine xm_E_cv [.ref v0] [] r_X10_fold_2 rfl rfl (Nat.le_of_ble_eq_true rfl) (xm_rc q3 (by decide)) rfl q2 ?_
  refine xm_E_s r_X10_fold_3 rfl rfl ?_
  refine xm_E_t q4 ?_
  refine xm_E_s r_X10_fold_4 rfl rfl ?_
  refine xm_E_cs [.int l1] [] r_X10_fold_5 rfl rfl rfl (Nat.le_of_ble_eq_true rfl) rfl q5 ?_
  refine xm_E_s r_X10_fold_6 rfl rfl ?_
  refine xm_E_f q6 ?_
  refine xm_E_s r_X10_fold_9 rfl rfl ?_
  refine xm_E_s r_X10_fold_10 rfl (xm_T_gr rfl q0 rfl rfl q7) ?_
  refine xm_E_s r_X10_fold_11 rfl rfl ?_
  refine xm_E_cv [.ref v3, .int l1] [] r_X10_fold_12 rfl rfl (Nat.le_of_ble_eq_true rfl) (xm_rc q9 (by decide)) rfl q8 ?_
  refine xm_E_s r_X10_fold_13 rfl rfl ?_
  refine xm_E_t q10 ?_
  refine xm_E_s r_X10_fold_20 rfl rfl ?_
  exact xm_E_iret r_X10_fold_21 rfl rfl
theorem p_X10_fold_0_2 {X : xm_X} {P : List xm_M} {d : Nat} {h : xm_H} {l0 : Nat} {l1 : Int32} {v0 : Nat} {h1 : xm_H} {r1 : Int32} {h2 : xm_H} {r2 : Int32} {v3 : Nat} {h4 : xm_H} {r4 : Int32} {v5 : Nat} {v6 : Nat} {h7 : xm_H} {r7 : Int32} (q0 : X.1[l0]? = some (.inr 9)) (q1 : h.2.2 l0 1 = some v0) (q2 : xm_V X P d 36 [.ref v0] h (some (.int r1)) h1) (q3 : X.1[v0]? = some (.inr 8)) (q4 : r1 = (0 : Int32)) (q5 : xm_V X P d 46 [.int l1] h1 (some (.int r2)) h2) (q6 : ¬ (r2 = (0 : Int32))) (q7 : h2.2.2 l0 1 = some v3) (q8 : xm_V X P d 51 [.ref v3, .int l1] h2 (some (.int r4)) h4) (q9 : X.1[v3]? = some (.inr 8)) (q10 : ¬ (r4 = (0 : Int32))) (q11 : h4.2.2 l0 1 = some v5) (q12 : X.1[v5]? = some (.inr 8)) (q13 : h4.2.2 v5 0 = some v6) (q14 : xm_V X P d 54 [.ref v6, .int l1] h4 (some (.int r7)) h7) (q15 : X.1[v6]? = some (.inr 0)) : xm_E X P d co_X10_fold 0 [some (.ref l0), some (.int l1)] [] h (some (.int r7)) h7 := by
  refine xm_E_s r_X10_fold_0 rfl rfl ?_
  refine xm_E_s r_X10_fold_1 rfl (xm_T_gr rfl q0 rfl rfl q1) ?_
  refine xm_E_cv [.ref v0] [] r_X10_fold_2 rfl rfl (Nat.le_of_ble_eq_true rfl) (xm_rc q3 (by decide)) rfl q2 ?_
  refine xm_E_s r_X10_fold_3 rfl rfl ?_
  refine xm_E_t q4 ?_
  refine xm_E_s r_X10_fold_4 rfl rfl ?_
  refine xm_E_cs [.int l1] [] r_X10_fold_5 rfl rfl rfl (Nat.le_of_ble_eq_true rfl) rfl q5 ?_
  refine xm_E_s r_X10_fold_6 rfl rfl ?_
  refine xm_E_f q6 ?_
  refine xm_E_s r_X10_fold_9 rfl rfl ?_
  refine xm_E_s r_X10_fold_10 rfl (xm_T_gr rfl q0 rfl rfl q7) ?_
  refine xm_E_s r_X10_fold_11 rfl rfl ?_
  refine xm_E_cv [.ref v3, .int l1] [] r_X10_fold_12 rfl rfl (Nat.le_of_ble_eq_true rfl) (xm_rc q9 (by decide)) rfl q8 ?_
  refine xm_E_s r_X10_fold_13 rfl rfl ?_
  refine xm_E_f q10 ?_
  refine xm_E_s r_X10_fold_14 rfl rfl ?_
  refine xm_E_s r_X10_fold_15 rfl (xm_T_gr rfl q0 rfl rfl q11) ?_
  refine xm_E_s r_X10_fold_16 rfl (xm_T_gr rfl q12 rfl rfl q13) ?_
  refine xm_E_s r_X10_fold_17 rfl rfl ?_
  refine xm_E_cv [.ref v6, .int l1] [] r_X10_fold_18 rfl rfl (Nat.le_of_ble_eq_true rfl) (xm_rc q15 (by decide)) rfl q14 ?_
  refine xm_E_s r_X10_fold_19 rfl rfl ?_
  exact xm_E_iret r_X10_fold_21 rfl rfl
theorem p_X10_fold_0_3 {X : xm_X} {P : List xm_M} {d : Nat} {h : xm_H} {l0 : Nat} {l1 : Int32} {v0 : Nat} {h1 : xm_H} {r1 : Int32} (q0 : X.1[l0]? = some (.inr 9)) (q1 : h.2.2 l0 1 = some v0) (q2 : xm_V X P d 36 [.ref v0] h (some (.int r1)) h1) (q3 : X.1[v0]? = some (.inr 8)) (q4 : ¬ (r1 = (0 : Int32))) : xm_E X P d co_X10_fold 0 [some (.ref l0), some (.int l1)] [] h (some (.int (-2 : Int32))) h1 := by
  refine xm_E_s r_X10_fold_0 rfl rfl ?_
  refine xm_E_s r_X10_fold_1 rfl (xm_T_gr rfl q0 rfl rfl q1) ?_
  refine xm_E_cv [.ref v0] [] r_X10_fold_2 rfl rfl (Nat.le_of_ble_eq_true rfl) (xm_rc q3 (by decide)) rfl q2 ?_
  refine xm_E_s r_X10_fold_3 rfl rfl ?_
  refine xm_E_f q4 ?_
  refine xm_E_s r_X10_fold_7 rfl rfl ?_
  exact xm_E_iret r_X10_fold_8 rfl rfl
theorem r_X10_call_0 : co_X10_call[0]? = some ((0, .aload_n 0, 0, 0, 0, 0, 0, 0, []) : xm_I) := rfl
theorem r_X10_call_1 : co_X10_call[1]? = some ((1, .iload_n 1, 0, 0, 0, 0, 0, 0, []) : xm_I) := rfl
theorem r_X10_call_2 : co_X10_call[2]? = some ((2, .invokevirtual 146, 781, 56, 2, 9, 0, 0, []) : xm_I) := rfl
theorem r_X10_call_3 : co_X10_call[3]? = some ((5, .ifCond .ne 6, 0, 0, 6, 0, 0, 0, []) : xm_I) := rfl
theorem r_X10_call_4 : co_X10_call[4]? = some ((8, .bipush (-2), 0, 0, 0, 0, (-2), 0, []) : xm_I) := rfl
theorem r_X10_call_5 : co_X10_call[5]? = some ((10, .ireturn, 0, 0, 0, 0, 0, 0, []) : xm_I) := rfl
theorem r_X10_call_6 : co_X10_call[6]? = some ((11, .aload_n 0, 0, 0, 0, 0, 0, 0, []) : xm_I) := rfl
theorem r_X10_call_7 : co_X10_call[7]? = some ((12, .getfield 19, 482, 9, 1, 2, 0, 0, []) : xm_I) := rfl
theorem r_X10_call_8 : co_X10_call[8]? = some ((15, .getfield 103, 305, 8, 0, 2, 0, 0, []) : xm_I) := rfl
theorem r_X10_call_9 : co_X10_call[9]? = some ((18, .iload_n 1, 0, 0, 0, 0, 0, 0, []) : xm_I) := rfl
theorem r_X10_call_10 : co_X10_call[10]? = some ((19, .invokevirtual 149, 785, 57, 2, 0, 0, 0, []) : xm_I) := rfl
theorem r_X10_call_11 : co_X10_call[11]? = some ((22, .istore_n 2, 0, 0, 0, 0, 0, 0, []) : xm_I) := rfl
theorem r_X10_call_12 : co_X10_call[12]? = some ((23, .aload_n 0, 0, 0, 0, 0, 0, 0, []) : xm_I) := rfl
theorem r_X10_call_13 : co_X10_call[13]? = some ((24, .getfield 19, 482, 9, 1, 2, 0, 0, []) : xm_I) := rfl
theorem r_X10_call_14 : co_X10_call[14]? = some ((27, .iload_n 2, 0, 0, 0, 0, 0, 0, []) : xm_I) := rfl
theorem r_X10_call_15 : co_X10_call[15]? = some ((28, .invokevirtual 139, 754, 51, 2, 8, 0, 0, []) : xm_I) := rfl
theorem r_X10_call_16 : co_X10_call[16]? = some ((31, .ifCond .eq 7, 0, 0, 19, 0, 0, 0, []) : xm_I) := rfl
theorem r_X10_call_17 : co_X10_call[17]? = some ((34, .iload_n 2, 0, 0, 0, 0, 0, 0, []) : xm_I) := rfl
theorem r_X10_call_18 : co_X10_call[18]? = some ((35, .goto 5, 0, 0, 20, 0, 0, 0, []) : xm_I) := rfl
theorem r_X10_call_19 : co_X10_call[19]? = some ((38, .bipush (-5), 0, 0, 0, 0, (-5), 0, []) : xm_I) := rfl
theorem r_X10_call_20 : co_X10_call[20]? = some ((40, .ireturn, 0, 0, 0, 0, 0, 0, []) : xm_I) := rfl
theorem p_X10_call_0_0 {X : xm_X} {P : List xm_M} {d : Nat} {h : xm_H} {l0 : Nat} {l1 : Int32} {h0 : xm_H} {r0 : Int32} (q0 : xm_V X P d 56 [.ref l0, .int l1] h (some (.int r0)) h0) (q1 : X.1[l0]? = some (.inr 9)) (q2 : r0 = (0 : Int32)) : xm_E X P d co_X10_call 0 [some (.ref l0), some (.int l1), none] [] h (some (.int (-2 : Int32))) h0 := by
  refine xm_E_s r_X10_call_0 rfl rfl ?_
  refine xm_E_s r_X10_call_1 rfl rfl ?_
  refine xm_E_cv [.ref l0, .int l1] [] r_X10_call_2 rfl rfl (Nat.le_of_ble_eq_true rfl) (xm_rc q1 (by decide)) rfl q0 ?_
  refine xm_E_s r_X10_call_3 rfl rfl ?_
  refine xm_E_t q2 ?_
  refine xm_E_s r_X10_call_4 rfl rfl ?_
  exact xm_E_iret r_X10_call_5 rfl rfl
theorem p_X10_call_0_1 {X : xm_X} {P : List xm_M} {d : Nat} {h : xm_H} {l0 : Nat} {l1 : Int32} {h0 : xm_H} {r0 : Int32} {v1 : Nat} {v2 : Nat} {h3 : xm_H} {r3 : Int32} {v4 : Nat} {h5 : xm_H} {r5 : Int32} (q0 : xm_V X P d 56 [.ref l0, .int l1] h (some (.int r0)) h0) (q1 : X.1[l0]? = some (.inr 9)) (q2 : ¬ (r0 = (0 : Int32))) (q3 : h0.2.2 l0 1 = some v1) (q4 : X.1[v1]? = some (.inr 8)) (q5 : h0.2.2 v1 0 = some v2) (q6 : xm_V X P d 57 [.ref v2, .int l1] h0 (some (.int r3)) h3) (q7 : X.1[v2]? = some (.inr 0)) (q8 : h3.2.2 l0 1 = some v4) (q9 : xm_V X P d 51 [.ref v4, .int r3] h3 (some (.int r5)) h5) (q10 : X.1[v4]? = some (.inr 8)) (q11 : r5 = (0 : Int32)) : xm_E X P d co_X10_call 0 [some (.ref l0), some (.int l1), none] [] h (some (.int (-5 : Int32))) h5 := by
  refine xm_E_s r_X10_call_0 rfl rfl ?_
  refine xm_E_s r_X10_call_1 rfl rfl ?_
  refine xm_E_cv [.ref l0, .int l1] [] r_X10_call_2 rfl rfl (Nat.le_of_ble_eq_true rfl) (xm_rc q1 (by decide)) rfl q0 ?_
  refine xm_E_s r_X10_call_3 rfl rfl ?_
  refine xm_E_f q2 ?_
  refine xm_E_s r_X10_call_6 rfl rfl ?_
  refine xm_E_s r_X10_call_7 rfl (xm_T_gr rfl q1 rfl rfl q3) ?_
  refine xm_E_s r_X10_call_8 rfl (xm_T_gr rfl q4 rfl rfl q5) ?_
  refine xm_E_s r_X10_call_9 rfl rfl ?_
  refine xm_E_cv [.ref v2, .int l1] [] r_X10_call_10 rfl rfl (Nat.le_of_ble_eq_true rfl) (xm_rc q7 (by decide)) rfl q6 ?_
  refine xm_E_s (ls1 := [some (.ref l0), some (.int l1), some (.int r3)]) r_X10_call_11 rfl rfl ?_
  refine xm_E_s r_X10_call_12 rfl rfl ?_
  refine xm_E_s r_X10_call_13 rfl (xm_T_gr rfl q1 rfl rfl q8) ?_
  refine xm_E_s r_X10_call_14 rfl rfl ?_
  refine xm_E_cv [.ref v4, .int r3] [] r_X10_call_15 rfl rfl (Nat.le_of_ble_eq_true rfl) (xm_rc q10 (by decide)) rfl q9 ?_
  refine xm_E_s r_X10_call_16 rfl rfl ?_
  refine xm_E_t q11 ?_
  refine xm_E_s r_X10_call_19 rfl rfl ?_
  exact xm_E_iret r_X10_call_20 rfl rfl
theorem p_X10_call_0_2 {X : xm_X} {P : List xm_M} {d : Nat} {h : xm_H} {l0 : Nat} {l1 : Int32} {h0 : xm_H} {r0 : Int32} {v1 : Nat} {v2 : Nat} {h3 : xm_H} {r3 : Int32} {v4 : Nat} {h5 : xm_H} {r5 : Int32} (q0 : xm_V X P d 56 [.ref l0, .int l1] h (some (.int r0)) h0) (q1 : X.1[l0]? = some (.inr 9)) (q2 : ¬ (r0 = (0 : Int32))) (q3 : h0.2.2 l0 1 = some v1) (q4 : X.1[v1]? = some (.inr 8)) (q5 : h0.2.2 v1 0 = some v2) (q6 : xm_V X P d 57 [.ref v2, .int l1] h0 (some (.int r3)) h3) (q7 : X.1[v2]? = some (.inr 0)) (q8 : h3.2.2 l0 1 = some v4) (q9 : xm_V X P d 51 [.ref v4, .int r3] h3 (some (.int r5)) h5) (q10 : X.1[v4]? = some (.inr 8)) (q11 : ¬ (r5 = (0 : Int32))) : xm_E X P d co_X10_call 0 [some (.ref l0), some (.int l1), none] [] h (some (.int r3)) h5 := by
  refine xm_E_s r_X10_call_0 rfl rfl ?_
  refine xm_E_s r_X10_call_1 rfl rfl ?_
  refine xm_E_cv [.ref l0, .int l1] [] r_X10_call_2 rfl rfl (Nat.le_of_ble_eq_true rfl) (xm_rc q1 (by decide)) rfl q0 ?_
  refine xm_E_s r_X10_call_3 rfl rfl ?_
  refine xm_E_f q2 ?_
  refine xm_E_s r_X10_call_6 rfl rfl ?_
  refine xm_E_s r_X10_call_7 rfl (xm_T_gr rfl q1 rfl rfl q3) ?_
  refine xm_E_s r_X10_call_8 rfl (xm_T_gr rfl q4 rfl rfl q5) ?_
  refine xm_E_s r_X10_call_9 rfl rfl ?_
  refine xm_E_cv [.ref v2, .int l1] [] r_X10_call_10 rfl rfl (Nat.le_of_ble_eq_true rfl) (xm_rc q7 (by decide)) rfl q6 ?_
  refine xm_E_s (ls1 := [some (.ref l0), some (.int l1), some (.int r3)]) r_X10_call_11 rfl rfl ?_
  refine xm_E_s r_X10_call_12 rfl rfl ?_
  refine xm_E_s r_X10_call_13 rfl (xm_T_gr rfl q1 rfl rfl q8) ?_
  refine xm_E_s r_X10_call_14 rfl rfl ?_
  refine xm_E_cv [.ref v4, .int r3] [] r_X10_call_15 rfl rfl (Nat.le_of_ble_eq_true rfl) (xm_rc q10 (by decide)) rfl q9 ?_
  refine xm_E_s r_X10_call_16 rfl rfl ?_
  refine xm_E_f q11 ?_
  refine xm_E_s r_X10_call_17 rfl rfl ?_
  refine xm_E_s r_X10_call_18 rfl rfl ?_
  exact xm_E_iret r_X10_call_20 rfl rfl
theorem r_X10_isCall_0 : co_X10_isCall[0]? = some ((0, .iload_n 1, 0, 0, 0, 0, 0, 0, []) : xm_I) := rfl
theorem r_X10_isCall_1 : co_X10_isCall[1]? = some ((1, .ifCond .lt 21, 0, 0, 10, 0, 0, 0, []) : xm_I) := rfl
theorem r_X10_isCall_2 : co_X10_isCall[2]? = some ((4, .iload_n 1, 0, 0, 0, 0, 0, 0, []) : xm_I) := rfl
theorem r_X10_isCall_3 : co_X10_isCall[3]? = some ((5, .aload_n 0, 0, 0, 0, 0, 0, 0, []) : xm_I) := rfl
theorem r_X10_isCall_4 : co_X10_isCall[4]? = some ((6, .getfield 19, 482, 9, 1, 2, 0, 0, []) : xm_I) := rfl
theorem r_X10_isCall_5 : co_X10_isCall[5]? = some ((9, .getfield 103, 305, 8, 0, 2, 0, 0, []) : xm_I) := rfl
theorem r_X10_isCall_6 : co_X10_isCall[6]? = some ((12, .getfield 255, 226, 0, 6, 0, 0, 0, []) : xm_I) := rfl
theorem r_X10_isCall_7 : co_X10_isCall[7]? = some ((15, .if_icmp .ge 7, 0, 0, 10, 0, 0, 0, []) : xm_I) := rfl
theorem r_X10_isCall_8 : co_X10_isCall[8]? = some ((18, .iconst 1, 0, 0, 0, 0, 1, 0, []) : xm_I) := rfl
theorem r_X10_isCall_9 : co_X10_isCall[9]? = some ((19, .goto 4, 0, 0, 11, 0, 0, 0, []) : xm_I) := rfl
theorem r_X10_isCall_10 : co_X10_isCall[10]? = some ((22, .iconst 0, 0, 0, 0, 0, 0, 0, []) : xm_I) := rfl
theorem r_X10_isCall_11 : co_X10_isCall[11]? = some ((23, .ireturn, 0, 0, 0, 3, 0, 0, []) : xm_I) := rfl
theorem p_X10_isCall_0_0 {X : xm_X} {P : List xm_M} {d : Nat} {h : xm_H} {l0 : Nat} {l1 : Int32} (q0 : l1 < (0 : Int32)) : xm_E X P d co_X10_isCall 0 [some (.ref l0), some (.int l1)] [] h (some (.int (0 : Int32))) h := by
  refine xm_E_s r_X10_isCall_0 rfl rfl ?_
  refine xm_E_s r_X10_isCall_1 rfl rfl ?_
  refine xm_E_t q0 ?_
  refine xm_E_s r_X10_isCall_10 rfl rfl ?_
  exact xm_E_iret r_X10_isCall_11 rfl rfl
theorem p_X10_isCall_0_1 {X : xm_X} {P : List xm_M} {d : Nat} {h : xm_H} {l0 : Nat} {l1 : Int32} {v0 : Nat} {v1 : Nat} (q0 : ¬ (l1 < (0 : Int32))) (q1 : X.1[l0]? = some (.inr 9)) (q2 : h.2.2 l0 1 = some v0) (q3 : X.1[v0]? = some (.inr 8)) (q4 : h.2.2 v0 0 = some v1) (q5 : X.1[v1]? = some (.inr 0)) (q6 : h.1 v1 6 ≤ l1) : xm_E X P d co_X10_isCall 0 [some (.ref l0), some (.int l1)] [] h (some (.int (0 : Int32))) h := by
  refine xm_E_s r_X10_isCall_0 rfl rfl ?_
  refine xm_E_s r_X10_isCall_1 rfl rfl ?_
  refine xm_E_f q0 ?_
  refine xm_E_s r_X10_isCall_2 rfl rfl ?_
  refine xm_E_s r_X10_isCall_3 rfl rfl ?_
  refine xm_E_s r_X10_isCall_4 rfl (xm_T_gr rfl q1 rfl rfl q2) ?_
  refine xm_E_s r_X10_isCall_5 rfl (xm_T_gr rfl q3 rfl rfl q4) ?_
  refine xm_E_s r_X10_isCall_6 rfl (xm_T_gi rfl q5 rfl (Or.inl rfl)) ?_
  refine xm_E_s r_X10_isCall_7 rfl rfl ?_
  refine xm_E_t q6 ?_
  refine xm_E_s r_X10_isCall_10 rfl rfl ?_
  exact xm_E_iret r_X10_isCall_11 rfl rfl
theorem p_X10_isCall_0_2 {X : xm_X} {P : List xm_M} {d : Nat} {h : xm_H} {l0 : Nat} {l1 : Int32} {v0 : Nat} {v1 : Nat} (q0 : ¬ (l1 < (0 : Int32))) (q1 : X.1[l0]? = some (.inr 9)) (q2 : h.2.2 l0 1 = some v0) (q3 : X.1[v0]? = some (.inr 8)) (q4 : h.2.2 v0 0 = some v1) (q5 : X.1[v1]? = some (.inr 0)) (q6 : ¬ (h.1 v1 6 ≤ l1)) : xm_E X P d co_X10_isCall 0 [some (.ref l0), some (.int l1)] [] h (some (.int (1 : Int32))) h := by
  refine xm_E_s r_X10_isCall_0 rfl rfl ?_
  refine xm_E_s r_X10_isCall_1 rfl rfl ?_
  refine xm_E_f q0 ?_
  refine xm_E_s r_X10_isCall_2 rfl rfl ?_
  refine xm_E_s r_X10_isCall_3 rfl rfl ?_
  refine xm_E_s r_X10_isCall_4 rfl (xm_T_gr rfl q1 rfl rfl q2) ?_
  refine xm_E_s r_X10_isCall_5 rfl (xm_T_gr rfl q3 rfl rfl q4) ?_
  refine xm_E_s r_X10_isCall_6 rfl (xm_T_gi rfl q5 rfl (Or.inl rfl)) ?_
  refine xm_E_s r_X10_isCall_7 rfl rfl ?_
  refine xm_E_f q6 ?_
  refine xm_E_s r_X10_isCall_8 rfl rfl ?_
  refine xm_E_s r_X10_isCall_9 rfl rfl ?_
  exact xm_E_iret r_X10_isCall_11 rfl rfl
theorem r_X10_undo_0 : co_X10_undo[0]? = some ((0, .aload_n 0, 0, 0, 0, 0, 0, 0, []) : xm_I) := rfl
theorem r_X10_undo_1 : co_X10_undo[1]? = some ((1, .getfield 19, 482, 9, 1, 2, 0, 0, []) : xm_I) := rfl
theorem r_X10_undo_2 : co_X10_undo[2]? = some ((4, .invokevirtual 113, 696, 36, 1, 8, 0, 0, []) : xm_I) := rfl
theorem r_X10_undo_3 : co_X10_undo[3]? = some ((7, .ifCond .eq 6, 0, 0, 6, 0, 0, 0, []) : xm_I) := rfl
theorem r_X10_undo_4 : co_X10_undo[4]? = some ((10, .bipush (-2), 0, 0, 0, 0, (-2), 0, []) : xm_I) := rfl
theorem r_X10_undo_5 : co_X10_undo[5]? = some ((12, .ireturn, 0, 0, 0, 0, 0, 0, []) : xm_I) := rfl
theorem r_X10_undo_6 : co_X10_undo[6]? = some ((13, .aload_n 0, 0, 0, 0, 0, 0, 0, []) : xm_I) := rfl
theorem r_X10_undo_7 : co_X10_undo[7]? = some ((14, .getfield 19, 482, 9, 1, 2, 0, 0, []) : xm_I) := rfl
theorem r_X10_undo_8 : co_X10_undo[8]? = some ((17, .getfield 152, 308, 8, 2, 0, 0, 0, []) : xm_I) := rfl
theorem r_X10_undo_9 : co_X10_undo[9]? = some ((20, .ifCond .ne 6, 0, 0, 12, 0, 0, 0, []) : xm_I) := rfl
theorem r_X10_undo_10 : co_X10_undo[10]? = some ((23, .bipush (-5), 0, 0, 0, 0, (-5), 0, []) : xm_I) := rfl
theorem r_X10_undo_11 : co_X10_undo[11]? = some ((25, .ireturn, 0, 0, 0, 0, 0, 0, []) : xm_I) := rfl
theorem r_X10_undo_12 : co_X10_undo[12]? = some ((26, .aload_n 0, 0, 0, 0, 0, 0, 0, []) : xm_I) := rfl
theorem r_X10_undo_13 : co_X10_undo[13]? = some ((27, .getfield 19, 482, 9, 1, 2, 0, 0, []) : xm_I) := rfl
theorem r_X10_undo_14 : co_X10_undo[14]? = some ((30, .aload_n 0, 0, 0, 0, 0, 0, 0, []) : xm_I) := rfl
theorem r_X10_undo_15 : co_X10_undo[15]? = some ((31, .getfield 19, 482, 9, 1, 2, 0, 0, []) : xm_I) := rfl
theorem r_X10_undo_16 : co_X10_undo[16]? = some ((34, .getfield 152, 308, 8, 2, 0, 0, 0, []) : xm_I) := rfl
theorem r_X10_undo_17 : co_X10_undo[17]? = some ((37, .iconst 1, 0, 0, 0, 0, 1, 0, []) : xm_I) := rfl
theorem r_X10_undo_18 : co_X10_undo[18]? = some ((38, .isub, 0, 0, 0, 0, 0, 0, []) : xm_I) := rfl
theorem r_X10_undo_19 : co_X10_undo[19]? = some ((39, .invokevirtual 153, 806, 62, 2, 8, 0, 0, []) : xm_I) := rfl
theorem r_X10_undo_20 : co_X10_undo[20]? = some ((42, .aload_n 0, 0, 0, 0, 0, 0, 0, []) : xm_I) := rfl
theorem r_X10_undo_21 : co_X10_undo[21]? = some ((43, .getfield 19, 482, 9, 1, 2, 0, 0, []) : xm_I) := rfl
theorem r_X10_undo_22 : co_X10_undo[22]? = some ((46, .getfield 152, 308, 8, 2, 0, 0, 0, []) : xm_I) := rfl
theorem r_X10_undo_23 : co_X10_undo[23]? = some ((49, .ireturn, 0, 0, 0, 0, 0, 0, []) : xm_I) := rfl
theorem p_X10_undo_0_0 {X : xm_X} {P : List xm_M} {d : Nat} {h : xm_H} {l0 : Nat} {v0 : Nat} {h1 : xm_H} {r1 : Int32} {v2 : Nat} (q0 : X.1[l0]? = some (.inr 9)) (q1 : h.2.2 l0 1 = some v0) (q2 : xm_V X P d 36 [.ref v0] h (some (.int r1)) h1) (q3 : X.1[v0]? = some (.inr 8)) (q4 : r1 = (0 : Int32)) (q5 : h1.2.2 l0 1 = some v2) (q6 : X.1[v2]? = some (.inr 8)) (q7 : h1.1 v2 2 = (0 : Int32)) : xm_E X P d co_X10_undo 0 [some (.ref l0)] [] h (some (.int (-5 : Int32))) h1 := by
  refine xm_E_s r_X10_undo_0 rfl rfl ?_
  refine xm_E_s r_X10_undo_1 rfl (xm_T_gr rfl q0 rfl rfl q1) ?_
  refine xm_E_cv [.ref v0] [] r_X10_undo_2 rfl rfl (Nat.le_of_ble_eq_true rfl) (xm_rc q3 (by decide)) rfl q2 ?_
  refine xm_E_s r_X10_undo_3 rfl rfl ?_
  refine xm_E_t q4 ?_
  refine xm_E_s r_X10_undo_6 rfl rfl ?_
  refine xm_E_s r_X10_undo_7 rfl (xm_T_gr rfl q0 rfl rfl q5) ?_
  refine xm_E_s r_X10_undo_8 rfl (xm_T_gi rfl q6 rfl (Or.inl rfl)) ?_
  refine xm_E_s r_X10_undo_9 rfl rfl ?_
  refine xm_E_t q7 ?_
  refine xm_E_s r_X10_undo_10 rfl rfl ?_
  exact xm_E_iret r_X10_undo_11 rfl rfl
theorem p_X10_undo_0_1 {X : xm_X} {P : List xm_M} {d : Nat} {h : xm_H} {l0 : Nat} {v0 : Nat} {h1 : xm_H} {r1 : Int32} {v2 : Nat} {h3 : xm_H} {v4 : Nat} (q0 : X.1[l0]? = some (.inr 9)) (q1 : h.2.2 l0 1 = some v0) (q2 : xm_V X P d 36 [.ref v0] h (some (.int r1)) h1) (q3 : X.1[v0]? = some (.inr 8)) (q4 : r1 = (0 : Int32)) (q5 : h1.2.2 l0 1 = some v2) (q6 : X.1[v2]? = some (.inr 8)) (q7 : ¬ (h1.1 v2 2 = (0 : Int32))) (q8 : xm_V X P d 62 [.ref v2, .int ((h1.1 v2 2) - (1 : Int32))] h1 none h3) (q9 : h3.2.2 l0 1 = some v4) (q10 : X.1[v4]? = some (.inr 8)) : xm_E X P d co_X10_undo 0 [some (.ref l0)] [] h (some (.int (h3.1 v4 2))) h3 := by
  refine xm_E_s r_X10_undo_0 rfl rfl ?_
  refine xm_E_s r_X10_undo_1 rfl (xm_T_gr rfl q0 rfl rfl q1) ?_
  refine xm_E_cv [.ref v0] [] r_X10_undo_2 rfl rfl (Nat.le_of_ble_eq_true rfl) (xm_rc q3 (by decide)) rfl q2 ?_
  refine xm_E_s r_X10_undo_3 rfl rfl ?_
  refine xm_E_t q4 ?_
  refine xm_E_s r_X10_undo_6 rfl rfl ?_
  refine xm_E_s r_X10_undo_7 rfl (xm_T_gr rfl q0 rfl rfl q5) ?_
  refine xm_E_s r_X10_undo_8 rfl (xm_T_gi rfl q6 rfl (Or.inl rfl)) ?_
  refine xm_E_s r_X10_undo_9 rfl rfl ?_
  refine xm_E_f q7 ?_
  refine xm_E_s r_X10_undo_12 rfl rfl ?_
  refine xm_E_s r_X10_undo_13 rfl (xm_T_gr rfl q0 rfl rfl q5) ?_
  refine xm_E_s r_X10_undo_14 rfl rfl ?_
  refine xm_E_s r_X10_undo_15 rfl (xm_T_gr rfl q0 rfl rfl q5) ?_
  refine xm_E_s r_X10_undo_16 rfl (xm_T_gi rfl q6 rfl (Or.inl rfl)) ?_
  refine xm_E_s r_X10_undo_17 rfl rfl ?_
  refine xm_E_s r_X10_undo_18 rfl rfl ?_
  refine xm_E_cv [.ref v2, .int ((h1.1 v2 2) - (1 : Int32))] [] r_X10_undo_19 rfl rfl (Nat.le_of_ble_eq_true rfl) (xm_rc q6 (by decide)) rfl q8 ?_
  refine xm_E_s r_X10_undo_20 rfl rfl ?_
  refine xm_E_s r_X10_undo_21 rfl (xm_T_gr rfl q0 rfl rfl q9) ?_
  refine xm_E_s r_X10_undo_22 rfl (xm_T_gi rfl q10 rfl (Or.inl rfl)) ?_
  exact xm_E_iret r_X10_undo_23 rfl rfl
theorem p_X10_undo_0_2 {X : xm_X} {P : List xm_M} {d : Nat} {h : xm_H} {l0 : Nat} {v0 : Nat} {h1 : xm_H} {r1 : Int32} (q0 : X.1[l0]? = some (.inr 9)) (q1 : h.2.2 l0 1 = some v0) (q2 : xm_V X P d 36 [.ref v0] h (some (.int r1)) h1) (q3 : X.1[v0]? = some (.inr 8)) (q4 : ¬ (r1 = (0 : Int32))) : xm_E X P d co_X10_undo 0 [some (.ref l0)] [] h (some (.int (-2 : Int32))) h1 := by
  refine xm_E_s r_X10_undo_0 rfl rfl ?_
  refine xm_E_s r_X10_undo_1 rfl (xm_T_gr rfl q0 rfl rfl q1) ?_
  refine xm_E_cv [.ref v0] [] r_X10_undo_2 rfl rfl (Nat.le_of_ble_eq_true rfl) (xm_rc q3 (by decide)) rfl q2 ?_
  refine xm_E_s r_X10_undo_3 rfl rfl ?_
  refine xm_E_f q4 ?_
  refine xm_E_s r_X10_undo_4 rfl rfl ?_
  exact xm_E_iret r_X10_undo_5 rfl rfl
theorem r_X10_led_0 : co_X10_led[0]? = some ((0, .aload_n 0, 0, 0, 0, 0, 0, 0, []) : xm_I) := rfl
theorem r_X10_led_1 : co_X10_led[1]? = some ((1, .getfield 19, 482, 9, 1, 2, 0, 0, []) : xm_I) := rfl
theorem r_X10_led_2 : co_X10_led[2]? = some ((4, .invokevirtual 113, 696, 36, 1, 8, 0, 0, []) : xm_I) := rfl
theorem r_X10_led_3 : co_X10_led[3]? = some ((7, .ifCond .eq 6, 0, 0, 6, 0, 0, 0, []) : xm_I) := rfl
theorem r_X10_led_4 : co_X10_led[4]? = some ((10, .bipush (-2), 0, 0, 0, 0, (-2), 0, []) : xm_I) := rfl
theorem r_X10_led_5 : co_X10_led[5]? = some ((12, .ireturn, 0, 0, 0, 0, 0, 0, []) : xm_I) := rfl
theorem r_X10_led_6 : co_X10_led[6]? = some ((13, .aload_n 0, 0, 0, 0, 0, 0, 0, []) : xm_I) := rfl
theorem r_X10_led_7 : co_X10_led[7]? = some ((14, .getfield 19, 482, 9, 1, 2, 0, 0, []) : xm_I) := rfl
theorem r_X10_led_8 : co_X10_led[8]? = some ((17, .iload_n 1, 0, 0, 0, 0, 0, 0, []) : xm_I) := rfl
theorem r_X10_led_9 : co_X10_led[9]? = some ((18, .invokevirtual 156, 816, 64, 2, 8, 0, 0, []) : xm_I) := rfl
theorem r_X10_led_10 : co_X10_led[10]? = some ((21, .ireturn, 0, 0, 0, 0, 0, 0, []) : xm_I) := rfl
theorem p_X10_led_0_0 {X : xm_X} {P : List xm_M} {d : Nat} {h : xm_H} {l0 : Nat} {l1 : Int32} {v0 : Nat} {h1 : xm_H} {r1 : Int32} {v2 : Nat} {h3 : xm_H} {r3 : Int32} (q0 : X.1[l0]? = some (.inr 9)) (q1 : h.2.2 l0 1 = some v0) (q2 : xm_V X P d 36 [.ref v0] h (some (.int r1)) h1) (q3 : X.1[v0]? = some (.inr 8)) (q4 : r1 = (0 : Int32)) (q5 : h1.2.2 l0 1 = some v2) (q6 : xm_V X P d 64 [.ref v2, .int l1] h1 (some (.int r3)) h3) (q7 : X.1[v2]? = some (.inr 8)) : xm_E X P d co_X10_led 0 [some (.ref l0), some (.int l1)] [] h (some (.int r3)) h3 := by
  refine xm_E_s r_X10_led_0 rfl rfl ?_
  refine xm_E_s r_X10_led_1 rfl (xm_T_gr rfl q0 rfl rfl q1) ?_
  refine xm_E_cv [.ref v0] [] r_X10_led_2 rfl rfl (Nat.le_of_ble_eq_true rfl) (xm_rc q3 (by decide)) rfl q2 ?_
  refine xm_E_s r_X10_led_3 rfl rfl ?_
  refine xm_E_t q4 ?_
  refine xm_E_s r_X10_led_6 rfl rfl ?_
  refine xm_E_s r_X10_led_7 rfl (xm_T_gr rfl q0 rfl rfl q5) ?_
  refine xm_E_s r_X10_led_8 rfl rfl ?_
  refine xm_E_cv [.ref v2, .int l1] [] r_X10_led_9 rfl rfl (Nat.le_of_ble_eq_true rfl) (xm_rc q7 (by decide)) rfl q6 ?_
  exact xm_E_iret r_X10_led_10 rfl rfl
theorem p_X10_led_0_1 {X : xm_X} {P : List xm_M} {d : Nat} {h : xm_H} {l0 : Nat} {l1 : Int32} {v0 : Nat} {h1 : xm_H} {r1 : Int32} (q0 : X.1[l0]? = some (.inr 9)) (q1 : h.2.2 l0 1 = some v0) (q2 : xm_V X P d 36 [.ref v0] h (some (.int r1)) h1) (q3 : X.1[v0]? = some (.inr 8)) (q4 : ¬ (r1 = (0 : Int32))) : xm_E X P d co_X10_led 0 [some (.ref l0), some (.int l1)] [] h (some (.int (-2 : Int32))) h1 := by
  refine xm_E_s r_X10_led_0 rfl rfl ?_
  refine xm_E_s r_X10_led_1 rfl (xm_T_gr rfl q0 rfl rfl q1) ?_
  refine xm_E_cv [.ref v0] [] r_X10_led_2 rfl rfl (Nat.le_of_ble_eq_true rfl) (xm_rc q3 (by decide)) rfl q2 ?_
  refine xm_E_s r_X10_led_3 rfl rfl ?_
  refine xm_E_f q4 ?_
  refine xm_E_s r_X10_led_4 rfl rfl ?_
  exact xm_E_iret r_X10_led_5 rfl rfl
theorem r_X10_anew_0 : co_X10_anew[0]? = some ((0, .aload_n 0, 0, 0, 0, 0, 0, 0, []) : xm_I) := rfl
theorem r_X10_anew_1 : co_X10_anew[1]? = some ((1, .getfield 19, 482, 9, 1, 2, 0, 0, []) : xm_I) := rfl
theorem r_X10_anew_2 : co_X10_anew[2]? = some ((4, .invokevirtual 113, 696, 36, 1, 8, 0, 0, []) : xm_I) := rfl
theorem r_X10_anew_3 : co_X10_anew[3]? = some ((7, .ifCond .eq 6, 0, 0, 6, 0, 0, 0, []) : xm_I) := rfl
theorem r_X10_anew_4 : co_X10_anew[4]? = some ((10, .bipush (-2), 0, 0, 0, 0, (-2), 0, []) : xm_I) := rfl
theorem r_X10_anew_5 : co_X10_anew[5]? = some ((12, .ireturn, 0, 0, 0, 0, 0, 0, []) : xm_I) := rfl
theorem r_X10_anew_6 : co_X10_anew[6]? = some ((13, .aload_n 0, 0, 0, 0, 0, 0, 0, []) : xm_I) := rfl
theorem r_X10_anew_7 : co_X10_anew[7]? = some ((14, .getfield 19, 482, 9, 1, 2, 0, 0, []) : xm_I) := rfl
theorem r_X10_anew_8 : co_X10_anew[8]? = some ((17, .getfield 152, 308, 8, 2, 0, 0, 0, []) : xm_I) := rfl
theorem r_X10_anew_9 : co_X10_anew[9]? = some ((20, .istore_n 1, 0, 0, 0, 0, 0, 0, []) : xm_I) := rfl
theorem r_X10_anew_10 : co_X10_anew[10]? = some ((21, .aload_n 0, 0, 0, 0, 0, 0, 0, []) : xm_I) := rfl
theorem r_X10_anew_11 : co_X10_anew[11]? = some ((22, .getfield 19, 482, 9, 1, 2, 0, 0, []) : xm_I) := rfl
theorem r_X10_anew_12 : co_X10_anew[12]? = some ((25, .invokevirtual 106, 677, 31, 1, 8, 0, 0, []) : xm_I) := rfl
theorem r_X10_anew_13 : co_X10_anew[13]? = some ((28, .iload_n 1, 0, 0, 0, 0, 0, 0, []) : xm_I) := rfl
theorem r_X10_anew_14 : co_X10_anew[14]? = some ((29, .ireturn, 0, 0, 0, 0, 0, 0, []) : xm_I) := rfl
theorem p_X10_anew_0_0 {X : xm_X} {P : List xm_M} {d : Nat} {h : xm_H} {l0 : Nat} {v0 : Nat} {h1 : xm_H} {r1 : Int32} {v2 : Nat} {h3 : xm_H} (q0 : X.1[l0]? = some (.inr 9)) (q1 : h.2.2 l0 1 = some v0) (q2 : xm_V X P d 36 [.ref v0] h (some (.int r1)) h1) (q3 : X.1[v0]? = some (.inr 8)) (q4 : r1 = (0 : Int32)) (q5 : h1.2.2 l0 1 = some v2) (q6 : X.1[v2]? = some (.inr 8)) (q7 : xm_V X P d 31 [.ref v2] h1 none h3) : xm_E X P d co_X10_anew 0 [some (.ref l0), none] [] h (some (.int (h1.1 v2 2))) h3 := by
  refine xm_E_s r_X10_anew_0 rfl rfl ?_
  refine xm_E_s r_X10_anew_1 rfl (xm_T_gr rfl q0 rfl rfl q1) ?_
  refine xm_E_cv [.ref v0] [] r_X10_anew_2 rfl rfl (Nat.le_of_ble_eq_true rfl) (xm_rc q3 (by decide)) rfl q2 ?_
  refine xm_E_s r_X10_anew_3 rfl rfl ?_
  refine xm_E_t q4 ?_
  refine xm_E_s r_X10_anew_6 rfl rfl ?_
  refine xm_E_s r_X10_anew_7 rfl (xm_T_gr rfl q0 rfl rfl q5) ?_
  refine xm_E_s r_X10_anew_8 rfl (xm_T_gi rfl q6 rfl (Or.inl rfl)) ?_
  refine xm_E_s (ls1 := [some (.ref l0), some (.int (h1.1 v2 2))]) r_X10_anew_9 rfl rfl ?_
  refine xm_E_s r_X10_anew_10 rfl rfl ?_
  refine xm_E_s r_X10_anew_11 rfl (xm_T_gr rfl q0 rfl rfl q5) ?_
  refine xm_E_cv [.ref v2] [] r_X10_anew_12 rfl rfl (Nat.le_of_ble_eq_true rfl) (xm_rc q6 (by decide)) rfl q7 ?_
  refine xm_E_s r_X10_anew_13 rfl rfl ?_
  exact xm_E_iret r_X10_anew_14 rfl rfl
theorem p_X10_anew_0_1 {X : xm_X} {P : List xm_M} {d : Nat} {h : xm_H} {l0 : Nat} {v0 : Nat} {h1 : xm_H} {r1 : Int32} (q0 : X.1[l0]? = some (.inr 9)) (q1 : h.2.2 l0 1 = some v0) (q2 : xm_V X P d 36 [.ref v0] h (some (.int r1)) h1) (q3 : X.1[v0]? = some (.inr 8)) (q4 : ¬ (r1 = (0 : Int32))) : xm_E X P d co_X10_anew 0 [some (.ref l0), none] [] h (some (.int (-2 : Int32))) h1 := by
  refine xm_E_s r_X10_anew_0 rfl rfl ?_
  refine xm_E_s r_X10_anew_1 rfl (xm_T_gr rfl q0 rfl rfl q1) ?_
  refine xm_E_cv [.ref v0] [] r_X10_anew_2 rfl rfl (Nat.le_of_ble_eq_true rfl) (xm_rc q3 (by decide)) rfl q2 ?_
  refine xm_E_s r_X10_anew_3 rfl rfl ?_
  refine xm_E_f q4 ?_
  refine xm_E_s r_X10_anew_4 rfl rfl ?_
  exact xm_E_iret r_X10_anew_5 rfl rfl
theorem r_X10_plan_0 : co_X10_plan[0]? = some ((0, .aload_n 0, 0, 0, 0, 0, 0, 0, []) : xm_I) := rfl
theorem r_X10_plan_1 : co_X10_plan[1]? = some ((1, .iload_n 1, 0, 0, 0, 0, 0, 0, []) : xm_I) := rfl
theorem r_X10_plan_2 : co_X10_plan[2]? = some ((2, .bipush 10, 0, 0, 0, 0, 10, 0, []) : xm_I) := rfl
theorem r_X10_plan_3 : co_X10_plan[3]? = some ((4, .invokevirtual 159, 828, 67, 3, 9, 0, 0, []) : xm_I) := rfl
theorem r_X10_plan_4 : co_X10_plan[4]? = some ((7, .istore_n 2, 0, 0, 0, 0, 0, 0, []) : xm_I) := rfl
theorem r_X10_plan_5 : co_X10_plan[5]? = some ((8, .iload_n 2, 0, 0, 0, 0, 0, 0, []) : xm_I) := rfl
theorem r_X10_plan_6 : co_X10_plan[6]? = some ((9, .ifCond .eq 5, 0, 0, 9, 0, 0, 0, []) : xm_I) := rfl
theorem r_X10_plan_7 : co_X10_plan[7]? = some ((12, .iload_n 2, 0, 0, 0, 0, 0, 0, []) : xm_I) := rfl
theorem r_X10_plan_8 : co_X10_plan[8]? = some ((13, .ireturn, 0, 0, 0, 0, 0, 0, []) : xm_I) := rfl
theorem r_X10_plan_9 : co_X10_plan[9]? = some ((14, .aload_n 0, 0, 0, 0, 0, 0, 0, []) : xm_I) := rfl
theorem r_X10_plan_10 : co_X10_plan[10]? = some ((15, .getfield 50, 487, 9, 6, 2, 0, 0, []) : xm_I) := rfl
theorem r_X10_plan_11 : co_X10_plan[11]? = some ((18, .aload_n 0, 0, 0, 0, 0, 0, 0, []) : xm_I) := rfl
theorem r_X10_plan_12 : co_X10_plan[12]? = some ((19, .getfield 19, 482, 9, 1, 2, 0, 0, []) : xm_I) := rfl
theorem r_X10_plan_13 : co_X10_plan[13]? = some ((22, .aload_n 0, 0, 0, 0, 0, 0, 0, []) : xm_I) := rfl
theorem r_X10_plan_14 : co_X10_plan[14]? = some ((23, .getfield 36, 485, 9, 4, 2, 0, 0, []) : xm_I) := rfl
theorem r_X10_plan_15 : co_X10_plan[15]? = some ((26, .iload_n 1, 0, 0, 0, 0, 0, 0, []) : xm_I) := rfl
theorem r_X10_plan_16 : co_X10_plan[16]? = some ((27, .aaload, 0, 0, 0, 0, 0, 0, []) : xm_I) := rfl
theorem r_X10_plan_17 : co_X10_plan[17]? = some ((28, .invokevirtual 163, 843, 71, 3, 6, 0, 0, []) : xm_I) := rfl
theorem r_X10_plan_18 : co_X10_plan[18]? = some ((31, .aload_n 0, 0, 0, 0, 0, 0, 0, []) : xm_I) := rfl
theorem r_X10_plan_19 : co_X10_plan[19]? = some ((32, .getfield 50, 487, 9, 6, 2, 0, 0, []) : xm_I) := rfl
theorem r_X10_plan_20 : co_X10_plan[20]? = some ((35, .getfield 167, 403, 6, 2, 0, 0, 0, []) : xm_I) := rfl
theorem r_X10_plan_21 : co_X10_plan[21]? = some ((38, .ireturn, 0, 0, 0, 0, 0, 0, []) : xm_I) := rfl
theorem p_X10_plan_0_0 {X : xm_X} {P : List xm_M} {d : Nat} {h : xm_H} {l0 : Nat} {l1 : Int32} {h0 : xm_H} {r0 : Int32} {v1 : Nat} {v2 : Nat} {v3 : Nat} {n4 : Nat} {b4 : Nat} {v5 : Nat} {h6 : xm_H} {v7 : Nat} (q0 : xm_V X P d 67 [.ref l0, .int l1, .int (10 : Int32)] h (some (.int r0)) h0) (q1 : X.1[l0]? = some (.inr 9)) (q2 : r0 = (0 : Int32)) (q3 : h0.2.2 l0 6 = some v1) (q4 : h0.2.2 l0 1 = some v2) (q5 : h0.2.2 l0 4 = some v3) (q6 : X.1[v3]? = some (.inl (b4, n4))) (q7 : ¬ (l1 < 0 ∨ n4 ≤ l1.toNatClampNeg)) (q8 : b4 = 4 ∨ b4 = 5) (q9 : h0.2.2 v3 l1.toNatClampNeg = some v5) (q10 : xm_V X P d 71 [.ref v1, .ref v2, .ref v5] h0 none h6) (q11 : X.1[v1]? = some (.inr 6)) (q12 : h6.2.2 l0 6 = some v7) (q13 : X.1[v7]? = some (.inr 6)) : xm_E X P d co_X10_plan 0 [some (.ref l0), some (.int l1), none] [] h (some (.int (h6.1 v7 2))) h6 := by
  refine xm_E_s r_X10_plan_0 rfl rfl ?_
  refine xm_E_s r_X10_plan_1 rfl rfl ?_
  refine xm_E_s r_X10_plan_2 rfl rfl ?_
  refine xm_E_cv [.ref l0, .int l1, .int (10 : Int32)] [] r_X10_plan_3 rfl rfl (Nat.le_of_ble_eq_true rfl) (xm_rc q1 (by decide)) rfl q0 ?_
  refine xm_E_s (ls1 := [some (.ref l0), some (.int l1), some (.int r0)]) r_X10_plan_4 rfl rfl ?_
  refine xm_E_s r_X10_plan_5 rfl rfl ?_
  refine xm_E_s r_X10_plan_6 rfl rfl ?_
  refine xm_E_t q2 ?_
  refine xm_E_s r_X10_plan_9 rfl rfl ?_
  refine xm_E_s r_X10_plan_10 rfl (xm_T_gr rfl q1 rfl rfl q3) ?_
  refine xm_E_s r_X10_plan_11 rfl rfl ?_
  refine xm_E_s r_X10_plan_12 rfl (xm_T_gr rfl q1 rfl rfl q4) ?_
  refine xm_E_s r_X10_plan_13 rfl rfl ?_
  refine xm_E_s r_X10_plan_14 rfl (xm_T_gr rfl q1 rfl rfl q5) ?_
  refine xm_E_s r_X10_plan_15 rfl rfl ?_
  refine xm_E_s r_X10_plan_16 rfl (xm_T_aald rfl q6 q8 q7 q9) ?_
  refine xm_E_cv [.ref v1, .ref v2, .ref v5] [] r_X10_plan_17 rfl rfl (Nat.le_of_ble_eq_true rfl) (xm_rc q11 (by decide)) rfl q10 ?_
  refine xm_E_s r_X10_plan_18 rfl rfl ?_
  refine xm_E_s r_X10_plan_19 rfl (xm_T_gr rfl q1 rfl rfl q12) ?_
  refine xm_E_s r_X10_plan_20 rfl (xm_T_gi rfl q13 rfl (Or.inl rfl)) ?_
  exact xm_E_iret r_X10_plan_21 rfl rfl
theorem p_X10_plan_0_1 {X : xm_X} {P : List xm_M} {d : Nat} {h : xm_H} {l0 : Nat} {l1 : Int32} {h0 : xm_H} {r0 : Int32} (q0 : xm_V X P d 67 [.ref l0, .int l1, .int (10 : Int32)] h (some (.int r0)) h0) (q1 : X.1[l0]? = some (.inr 9)) (q2 : ¬ (r0 = (0 : Int32))) : xm_E X P d co_X10_plan 0 [some (.ref l0), some (.int l1), none] [] h (some (.int r0)) h0 := by
  refine xm_E_s r_X10_plan_0 rfl rfl ?_
  refine xm_E_s r_X10_plan_1 rfl rfl ?_
  refine xm_E_s r_X10_plan_2 rfl rfl ?_
  refine xm_E_cv [.ref l0, .int l1, .int (10 : Int32)] [] r_X10_plan_3 rfl rfl (Nat.le_of_ble_eq_true rfl) (xm_rc q1 (by decide)) rfl q0 ?_
  refine xm_E_s (ls1 := [some (.ref l0), some (.int l1), some (.int r0)]) r_X10_plan_4 rfl rfl ?_
  refine xm_E_s r_X10_plan_5 rfl rfl ?_
  refine xm_E_s r_X10_plan_6 rfl rfl ?_
  refine xm_E_f q2 ?_
  refine xm_E_s r_X10_plan_7 rfl rfl ?_
  exact xm_E_iret r_X10_plan_8 rfl rfl
theorem r_X10_wrongRow_0 : co_X10_wrongRow[0]? = some ((0, .aload_n 0, 0, 0, 0, 0, 0, 0, []) : xm_I) := rfl
theorem r_X10_wrongRow_1 : co_X10_wrongRow[1]? = some ((1, .getfield 19, 482, 9, 1, 2, 0, 0, []) : xm_I) := rfl
theorem r_X10_wrongRow_2 : co_X10_wrongRow[2]? = some ((4, .invokevirtual 113, 696, 36, 1, 8, 0, 0, []) : xm_I) := rfl
theorem r_X10_wrongRow_3 : co_X10_wrongRow[3]? = some ((7, .ifCond .ne 10, 0, 0, 7, 0, 0, 0, []) : xm_I) := rfl
theorem r_X10_wrongRow_4 : co_X10_wrongRow[4]? = some ((10, .iload_n 1, 0, 0, 0, 0, 0, 0, []) : xm_I) := rfl
theorem r_X10_wrongRow_5 : co_X10_wrongRow[5]? = some ((11, .invokestatic 310, 832, 68, 1, 0, 0, 0, []) : xm_I) := rfl
theorem r_X10_wrongRow_6 : co_X10_wrongRow[6]? = some ((14, .ifCond .ne 6, 0, 0, 9, 0, 0, 0, []) : xm_I) := rfl
theorem r_X10_wrongRow_7 : co_X10_wrongRow[7]? = some ((17, .bipush (-2), 0, 0, 0, 0, (-2), 0, []) : xm_I) := rfl
theorem r_X10_wrongRow_8 : co_X10_wrongRow[8]? = some ((19, .ireturn, 0, 0, 0, 0, 0, 0, []) : xm_I) := rfl
theorem r_X10_wrongRow_9 : co_X10_wrongRow[9]? = some ((20, .aload_n 0, 0, 0, 0, 0, 0, 0, []) : xm_I) := rfl
theorem r_X10_wrongRow_10 : co_X10_wrongRow[10]? = some ((21, .getfield 36, 485, 9, 4, 2, 0, 0, []) : xm_I) := rfl
theorem r_X10_wrongRow_11 : co_X10_wrongRow[11]? = some ((24, .iload_n 1, 0, 0, 0, 0, 0, 0, []) : xm_I) := rfl
theorem r_X10_wrongRow_12 : co_X10_wrongRow[12]? = some ((25, .aaload, 0, 0, 0, 0, 0, 0, []) : xm_I) := rfl
theorem r_X10_wrongRow_13 : co_X10_wrongRow[13]? = some ((26, .getfield 313, 465, 2, 1, 3, 0, 0, []) : xm_I) := rfl
theorem r_X10_wrongRow_14 : co_X10_wrongRow[14]? = some ((29, .ifCond .ne 6, 0, 0, 17, 0, 0, 0, []) : xm_I) := rfl
theorem r_X10_wrongRow_15 : co_X10_wrongRow[15]? = some ((32, .bipush (-6), 0, 0, 0, 0, (-6), 0, []) : xm_I) := rfl
theorem r_X10_wrongRow_16 : co_X10_wrongRow[16]? = some ((34, .ireturn, 0, 0, 0, 0, 0, 0, []) : xm_I) := rfl
theorem r_X10_wrongRow_17 : co_X10_wrongRow[17]? = some ((35, .aload_n 0, 0, 0, 0, 0, 0, 0, []) : xm_I) := rfl
theorem r_X10_wrongRow_18 : co_X10_wrongRow[18]? = some ((36, .getfield 36, 485, 9, 4, 2, 0, 0, []) : xm_I) := rfl
theorem r_X10_wrongRow_19 : co_X10_wrongRow[19]? = some ((39, .iload_n 1, 0, 0, 0, 0, 0, 0, []) : xm_I) := rfl
theorem r_X10_wrongRow_20 : co_X10_wrongRow[20]? = some ((40, .aaload, 0, 0, 0, 0, 0, 0, []) : xm_I) := rfl
theorem r_X10_wrongRow_21 : co_X10_wrongRow[21]? = some ((41, .iload_n 2, 0, 0, 0, 0, 0, 0, []) : xm_I) := rfl
theorem r_X10_wrongRow_22 : co_X10_wrongRow[22]? = some ((42, .invokevirtual 417, 835, 69, 2, 2, 0, 0, []) : xm_I) := rfl
theorem r_X10_wrongRow_23 : co_X10_wrongRow[23]? = some ((45, .ifCond .eq 7, 0, 0, 26, 0, 0, 0, []) : xm_I) := rfl
theorem r_X10_wrongRow_24 : co_X10_wrongRow[24]? = some ((48, .iconst 0, 0, 0, 0, 0, 0, 0, []) : xm_I) := rfl
theorem r_X10_wrongRow_25 : co_X10_wrongRow[25]? = some ((49, .goto 5, 0, 0, 27, 0, 0, 0, []) : xm_I) := rfl
theorem r_X10_wrongRow_26 : co_X10_wrongRow[26]? = some ((52, .bipush (-2), 0, 0, 0, 0, (-2), 0, []) : xm_I) := rfl
theorem r_X10_wrongRow_27 : co_X10_wrongRow[27]? = some ((54, .ireturn, 0, 0, 0, 0, 0, 0, []) : xm_I) := rfl
theorem p_X10_wrongRow_0_0 {X : xm_X} {P : List xm_M} {d : Nat} {h : xm_H} {l0 : Nat} {l1 : Int32} {l2 : Int32} {v0 : Nat} {h1 : xm_H} {r1 : Int32} {h2 : xm_H} {r2 : Int32} (q0 : X.1[l0]? = some (.inr 9)) (q1 : h.2.2 l0 1 = some v0) (q2 : xm_V X P d 36 [.ref v0] h (some (.int r1)) h1) (q3 : X.1[v0]? = some (.inr 8)) (q4 : r1 = (0 : Int32)) (q5 : xm_V X P d 68 [.int l1] h1 (some (.int r2)) h2) (q6 : r2 = (0 : Int32)) : xm_E X P d co_X10_wrongRow 0 [some (.ref l0), some (.int l1), some (.int l2)] [] h (some (.int (-2 : Int32))) h2 := by
  refine xm_E_s r_X10_wrongRow_0 rfl rfl ?_
  refine xm_E_s r_X10_wrongRow_1 rfl (xm_T_gr rfl q0 rfl rfl q1) ?_
  refine xm_E_cv [.ref v0] [] r_X10_wrongRow_2 rfl rfl (Nat.le_of_ble_eq_true rfl) (xm_rc q3 (by decide)) rfl q2 ?_
  refine xm_E_s r_X10_wrongRow_3 rfl rfl ?_
  refine xm_E_t q4 ?_
  refine xm_E_s r_X10_wrongRow_4 rfl rfl ?_
  refine xm_E_cs [.int l1] [] r_X10_wrongRow_5 rfl rfl rfl (Nat.le_of_ble_eq_true rfl) rfl q5 ?_
  refine xm_E_s r_X10_wrongRow_6 rfl rfl ?_
  refine xm_E_t q6 ?_
  refine xm_E_s r_X10_wrongRow_7 rfl rfl ?_
  exact xm_E_iret r_X10_wrongRow_8 rfl rfl
theorem p_X10_wrongRow_0_1 {X : xm_X} {P : List xm_M} {d : Nat} {h : xm_H} {l0 : Nat} {l1 : Int32} {l2 : Int32} {v0 : Nat} {h1 : xm_H} {r1 : Int32} {h2 : xm_H} {r2 : Int32} {v3 : Nat} {n4 : Nat} {b4 : Nat} {v5 : Nat} (q0 : X.1[l0]? = some (.inr 9)) (q1 : h.2.2 l0 1 = some v0) (q2 : xm_V X P d 36 [.ref v0] h (some (.int r1)) h1) (q3 : X.1[v0]? = some (.inr 8)) (q4 : r1 = (0 : Int32)) (q5 : xm_V X P d 68 [.int l1] h1 (some (.int r2)) h2) (q6 : ¬ (r2 = (0 : Int32))) (q7 : h2.2.2 l0 4 = some v3) (q8 : X.1[v3]? = some (.inl (b4, n4))) (q9 : ¬ (l1 < 0 ∨ n4 ≤ l1.toNatClampNeg)) (q10 : b4 = 4 ∨ b4 = 5) (q11 : h2.2.2 v3 l1.toNatClampNeg = some v5) (q12 : X.1[v5]? = some (.inr 2)) (q13 : h2.1 v5 1 = (0 : Int32)) : xm_E X P d co_X10_wrongRow 0 [some (.ref l0), some (.int l1), some (.int l2)] [] h (some (.int (-6 : Int32))) h2 := by
  refine xm_E_s r_X10_wrongRow_0 rfl rfl ?_
  refine xm_E_s r_X10_wrongRow_1 rfl (xm_T_gr rfl q0 rfl rfl q1) ?_
  refine xm_E_cv [.ref v0] [] r_X10_wrongRow_2 rfl rfl (Nat.le_of_ble_eq_true rfl) (xm_rc q3 (by decide)) rfl q2 ?_
  refine xm_E_s r_X10_wrongRow_3 rfl rfl ?_
  refine xm_E_t q4 ?_
  refine xm_E_s r_X10_wrongRow_4 rfl rfl ?_
  refine xm_E_cs [.int l1] [] r_X10_wrongRow_5 rfl rfl rfl (Nat.le_of_ble_eq_true rfl) rfl q5 ?_
  refine xm_E_s r_X10_wrongRow_6 rfl rfl ?_
  refine xm_E_f q6 ?_
  refine xm_E_s r_X10_wrongRow_9 rfl rfl ?_
  refine xm_E_s r_X10_wrongRow_10 rfl (xm_T_gr rfl q0 rfl rfl q7) ?_
  refine xm_E_s r_X10_wrongRow_11 rfl rfl ?_
  refine xm_E_s r_X10_wrongRow_12 rfl (xm_T_aald rfl q8 q10 q9 q11) ?_
  refine xm_E_s r_X10_wrongRow_13 rfl (xm_T_gi rfl q12 rfl (Or.inr rfl)) ?_
  refine xm_E_s r_X10_wrongRow_14 rfl rfl ?_
  refine xm_E_t q13 ?_
  refine xm_E_s r_X10_wrongRow_15 rfl rfl ?_
  exact xm_E_iret r_X10_wrongRow_16 rfl rfl
theorem p_X10_wrongRow_0_2 {X : xm_X} {P : List xm_M} {d : Nat} {h : xm_H} {l0 : Nat} {l1 : Int32} {l2 : Int32} {v0 : Nat} {h1 : xm_H} {r1 : Int32} {h2 : xm_H} {r2 : Int32} {v3 : Nat} {n4 : Nat} {b4 : Nat} {v5 : Nat} {h6 : xm_H} {r6 : Int32} (q0 : X.1[l0]? = some (.inr 9)) (q1 : h.2.2 l0 1 = some v0) (q2 : xm_V X P d 36 [.ref v0] h (some (.int r1)) h1) (q3 : X.1[v0]? = some (.inr 8)) (q4 : r1 = (0 : Int32)) (q5 : xm_V X P d 68 [.int l1] h1 (some (.int r2)) h2) (q6 : ¬ (r2 = (0 : Int32))) (q7 : h2.2.2 l0 4 = some v3) (q8 : X.1[v3]? = some (.inl (b4, n4))) (q9 : ¬ (l1 < 0 ∨ n4 ≤ l1.toNatClampNeg)) (q10 : b4 = 4 ∨ b4 = 5) (q11 : h2.2.2 v3 l1.toNatClampNeg = some v5) (q12 : X.1[v5]? = some (.inr 2)) (q13 : ¬ (h2.1 v5 1 = (0 : Int32))) (q14 : xm_V X P d 69 [.ref v5, .int l2] h2 (some (.int r6)) h6) (q15 : r6 = (0 : Int32)) : xm_E X P d co_X10_wrongRow 0 [some (.ref l0), some (.int l1), some (.int l2)] [] h (some (.int (-2 : Int32))) h6 := by
  refine xm_E_s r_X10_wrongRow_0 rfl rfl ?_
  refine xm_E_s r_X10_wrongRow_1 rfl (xm_T_gr rfl q0 rfl rfl q1) ?_
  refine xm_E_cv [.ref v0] [] r_X10_wrongRow_2 rfl rfl (Nat.le_of_ble_eq_true rfl) (xm_rc q3 (by decide)) rfl q2 ?_
  refine xm_E_s r_X10_wrongRow_3 rfl rfl ?_
  refine xm_E_t q4 ?_
  refine xm_E_s r_X10_wrongRow_4 rfl rfl ?_
  refine xm_E_cs [.int l1] [] r_X10_wrongRow_5 rfl rfl rfl (Nat.le_of_ble_eq_true rfl) rfl q5 ?_
  refine xm_E_s r_X10_wrongRow_6 rfl rfl ?_
  refine xm_E_f q6 ?_
  refine xm_E_s r_X10_wrongRow_9 rfl rfl ?_
  refine xm_E_s r_X10_wrongRow_10 rfl (xm_T_gr rfl q0 rfl rfl q7) ?_
  refine xm_E_s r_X10_wrongRow_11 rfl rfl ?_
  refine xm_E_s r_X10_wrongRow_12 rfl (xm_T_aald rfl q8 q10 q9 q11) ?_
  refine xm_E_s r_X10_wrongRow_13 rfl (xm_T_gi rfl q12 rfl (Or.inr rfl)) ?_
  refine xm_E_s r_X10_wrongRow_14 rfl rfl ?_
  refine xm_E_f q13 ?_
  refine xm_E_s r_X10_wrongRow_17 rfl rfl ?_
  refine xm_E_s r_X10_wrongRow_18 rfl (xm_T_gr rfl q0 rfl rfl q7) ?_
  refine xm_E_s r_X10_wrongRow_19 rfl rfl ?_
  refine xm_E_s r_X10_wrongRow_20 rfl (xm_T_aald rfl q8 q10 q9 q11) ?_
  refine xm_E_s r_X10_wrongRow_21 rfl rfl ?_
  refine xm_E_cv [.ref v5, .int l2] [] r_X10_wrongRow_22 rfl rfl (Nat.le_of_ble_eq_true rfl) (xm_rc q12 (by decide)) rfl q14 ?_
  refine xm_E_s r_X10_wrongRow_23 rfl rfl ?_
  refine xm_E_t q15 ?_
  refine xm_E_s r_X10_wrongRow_26 rfl rfl ?_
  exact xm_E_iret r_X10_wrongRow_27 rfl rfl
theorem p_X10_wrongRow_0_3 {X : xm_X} {P : List xm_M} {d : Nat} {h : xm_H} {l0 : Nat} {l1 : Int32} {l2 : Int32} {v0 : Nat} {h1 : xm_H} {r1 : Int32} {h2 : xm_H} {r2 : Int32} {v3 : Nat} {n4 : Nat} {b4 : Nat} {v5 : Nat} {h6 : xm_H} {r6 : Int32} (q0 : X.1[l0]? = some (.inr 9)) (q1 : h.2.2 l0 1 = some v0) (q2 : xm_V X P d 36 [.ref v0] h (some (.int r1)) h1) (q3 : X.1[v0]? = some (.inr 8)) (q4 : r1 = (0 : Int32)) (q5 : xm_V X P d 68 [.int l1] h1 (some (.int r2)) h2) (q6 : ¬ (r2 = (0 : Int32))) (q7 : h2.2.2 l0 4 = some v3) (q8 : X.1[v3]? = some (.inl (b4, n4))) (q9 : ¬ (l1 < 0 ∨ n4 ≤ l1.toNatClampNeg)) (q10 : b4 = 4 ∨ b4 = 5) (q11 : h2.2.2 v3 l1.toNatClampNeg = some v5) (q12 : X.1[v5]? = some (.inr 2)) (q13 : ¬ (h2.1 v5 1 = (0 : Int32))) (q14 : xm_V X P d 69 [.ref v5, .int l2] h2 (some (.int r6)) h6) (q15 : ¬ (r6 = (0 : Int32))) : xm_E X P d co_X10_wrongRow 0 [some (.ref l0), some (.int l1), some (.int l2)] [] h (some (.int (0 : Int32))) h6 := by
  refine xm_E_s r_X10_wrongRow_0 rfl rfl ?_
  refine xm_E_s r_X10_wrongRow_1 rfl (xm_T_gr rfl q0 rfl rfl q1) ?_
  refine xm_E_cv [.ref v0] [] r_X10_wrongRow_2 rfl rfl (Nat.le_of_ble_eq_true rfl) (xm_rc q3 (by decide)) rfl q2 ?_
  refine xm_E_s r_X10_wrongRow_3 rfl rfl ?_
  refine xm_E_t q4 ?_
  refine xm_E_s r_X10_wrongRow_4 rfl rfl ?_
  refine xm_E_cs [.int l1] [] r_X10_wrongRow_5 rfl rfl rfl (Nat.le_of_ble_eq_true rfl) rfl q5 ?_
  refine xm_E_s r_X10_wrongRow_6 rfl rfl ?_
  refine xm_E_f q6 ?_
  refine xm_E_s r_X10_wrongRow_9 rfl rfl ?_
  refine xm_E_s r_X10_wrongRow_10 rfl (xm_T_gr rfl q0 rfl rfl q7) ?_
  refine xm_E_s r_X10_wrongRow_11 rfl rfl ?_
  refine xm_E_s r_X10_wrongRow_12 rfl (xm_T_aald rfl q8 q10 q9 q11) ?_
  refine xm_E_s r_X10_wrongRow_13 rfl (xm_T_gi rfl q12 rfl (Or.inr rfl)) ?_
  refine xm_E_s r_X10_wrongRow_14 rfl rfl ?_
  refine xm_E_f q13 ?_
  refine xm_E_s r_X10_wrongRow_17 rfl rfl ?_
  refine xm_E_s r_X10_wrongRow_18 rfl (xm_T_gr rfl q0 rfl rfl q7) ?_
  refine xm_E_s r_X10_wrongRow_19 rfl rfl ?_
  refine xm_E_s r_X10_wrongRow_20 rfl (xm_T_aald rfl q8 q10 q9 q11) ?_
  refine xm_E_s r_X10_wrongRow_21 rfl rfl ?_
  refine xm_E_cv [.ref v5, .int l2] [] r_X10_wrongRow_22 rfl rfl (Nat.le_of_ble_eq_true rfl) (xm_rc q12 (by decide)) rfl q14 ?_
  refine xm_E_s r_X10_wrongRow_23 rfl rfl ?_
  refine xm_E_f q15 ?_
  refine xm_E_s r_X10_wrongRow_24 rfl rfl ?_
  refine xm_E_s r_X10_wrongRow_25 rfl rfl ?_
  exact xm_E_iret r_X10_wrongRow_27 rfl rfl
theorem p_X10_wrongRow_0_4 {X : xm_X} {P : List xm_M} {d : Nat} {h : xm_H} {l0 : Nat} {l1 : Int32} {l2 : Int32} {v0 : Nat} {h1 : xm_H} {r1 : Int32} (q0 : X.1[l0]? = some (.inr 9)) (q1 : h.2.2 l0 1 = some v0) (q2 : xm_V X P d 36 [.ref v0] h (some (.int r1)) h1) (q3 : X.1[v0]? = some (.inr 8)) (q4 : ¬ (r1 = (0 : Int32))) : xm_E X P d co_X10_wrongRow 0 [some (.ref l0), some (.int l1), some (.int l2)] [] h (some (.int (-2 : Int32))) h1 := by
  refine xm_E_s r_X10_wrongRow_0 rfl rfl ?_
  refine xm_E_s r_X10_wrongRow_1 rfl (xm_T_gr rfl q0 rfl rfl q1) ?_
  refine xm_E_cv [.ref v0] [] r_X10_wrongRow_2 rfl rfl (Nat.le_of_ble_eq_true rfl) (xm_rc q3 (by decide)) rfl q2 ?_
  refine xm_E_s r_X10_wrongRow_3 rfl rfl ?_
  refine xm_E_f q4 ?_
  refine xm_E_s r_X10_wrongRow_7 rfl rfl ?_
  exact xm_E_iret r_X10_wrongRow_8 rfl rfl
theorem r_X10_isSlot_0 : co_X10_isSlot[0]? = some ((0, .iload_n 0, 0, 0, 0, 0, 0, 0, []) : xm_I) := rfl
theorem r_X10_isSlot_1 : co_X10_isSlot[1]? = some ((1, .ifCond .lt 12, 0, 0, 7, 0, 0, 0, []) : xm_I) := rfl
theorem r_X10_isSlot_2 : co_X10_isSlot[2]? = some ((4, .iload_n 0, 0, 0, 0, 0, 0, 0, []) : xm_I) := rfl
theorem r_X10_isSlot_3 : co_X10_isSlot[3]? = some ((5, .iconst 4, 0, 0, 0, 0, 4, 0, []) : xm_I) := rfl
theorem r_X10_isSlot_4 : co_X10_isSlot[4]? = some ((6, .if_icmp .ge 7, 0, 0, 7, 0, 0, 0, []) : xm_I) := rfl
theorem r_X10_isSlot_5 : co_X10_isSlot[5]? = some ((9, .iconst 1, 0, 0, 0, 0, 1, 0, []) : xm_I) := rfl
theorem r_X10_isSlot_6 : co_X10_isSlot[6]? = some ((10, .goto 4, 0, 0, 8, 0, 0, 0, []) : xm_I) := rfl
theorem r_X10_isSlot_7 : co_X10_isSlot[7]? = some ((13, .iconst 0, 0, 0, 0, 0, 0, 0, []) : xm_I) := rfl
theorem r_X10_isSlot_8 : co_X10_isSlot[8]? = some ((14, .ireturn, 0, 0, 0, 3, 0, 0, []) : xm_I) := rfl
theorem p_X10_isSlot_0_0 {X : xm_X} {P : List xm_M} {d : Nat} {h : xm_H} {l0 : Int32} (q0 : l0 < (0 : Int32)) : xm_E X P d co_X10_isSlot 0 [some (.int l0)] [] h (some (.int (0 : Int32))) h := by
  refine xm_E_s r_X10_isSlot_0 rfl rfl ?_
  refine xm_E_s r_X10_isSlot_1 rfl rfl ?_
  refine xm_E_t q0 ?_
  refine xm_E_s r_X10_isSlot_7 rfl rfl ?_
  exact xm_E_iret r_X10_isSlot_8 rfl rfl
theorem p_X10_isSlot_0_1 {X : xm_X} {P : List xm_M} {d : Nat} {h : xm_H} {l0 : Int32} (q0 : ¬ (l0 < (0 : Int32))) (q1 : (4 : Int32) ≤ l0) : xm_E X P d co_X10_isSlot 0 [some (.int l0)] [] h (some (.int (0 : Int32))) h := by
  refine xm_E_s r_X10_isSlot_0 rfl rfl ?_
  refine xm_E_s r_X10_isSlot_1 rfl rfl ?_
  refine xm_E_f q0 ?_
  refine xm_E_s r_X10_isSlot_2 rfl rfl ?_
  refine xm_E_s r_X10_isSlot_3 rfl rfl ?_
  refine xm_E_s r_X10_isSlot_4 rfl rfl ?_
  refine xm_E_t q1 ?_
  refine xm_E_s r_X10_isSlot_7 rfl rfl ?_
  exact xm_E_iret r_X10_isSlot_8 rfl rfl
theorem p_X10_isSlot_0_2 {X : xm_X} {P : List xm_M} {d : Nat} {h : xm_H} {l0 : Int32} (q0 : ¬ (l0 < (0 : Int32))) (q1 : ¬ ((4 : Int32) ≤ l0)) : xm_E X P d co_X10_isSlot 0 [some (.int l0)] [] h (some (.int (1 : Int32))) h := by
  refine xm_E_s r_X10_isSlot_0 rfl rfl ?_
  refine xm_E_s r_X10_isSlot_1 rfl rfl ?_
  refine xm_E_f q0 ?_
  refine xm_E_s r_X10_isSlot_2 rfl rfl ?_
  refine xm_E_s r_X10_isSlot_3 rfl rfl ?_
  refine xm_E_s r_X10_isSlot_4 rfl rfl ?_
  refine xm_E_f q1 ?_
  refine xm_E_s r_X10_isSlot_5 rfl rfl ?_
  refine xm_E_s r_X10_isSlot_6 rfl rfl ?_
  exact xm_E_iret r_X10_isSlot_8 rfl rfl
theorem r_X10_after_0 : co_X10_after[0]? = some ((0, .iload_n 2, 0, 0, 0, 0, 0, 0, []) : xm_I) := rfl
theorem r_X10_after_1 : co_X10_after[1]? = some ((1, .invokestatic 170, 863, 75, 1, 0, 0, 0, []) : xm_I) := rfl
theorem r_X10_after_2 : co_X10_after[2]? = some ((4, .ifCond .eq 13, 0, 0, 8, 0, 0, 0, []) : xm_I) := rfl
theorem r_X10_after_3 : co_X10_after[3]? = some ((7, .aload_n 0, 0, 0, 0, 0, 0, 0, []) : xm_I) := rfl
theorem r_X10_after_4 : co_X10_after[4]? = some ((8, .iload_n 1, 0, 0, 0, 0, 0, 0, []) : xm_I) := rfl
theorem r_X10_after_5 : co_X10_after[5]? = some ((9, .bipush 10, 0, 0, 0, 0, 10, 0, []) : xm_I) := rfl
theorem r_X10_after_6 : co_X10_after[6]? = some ((11, .invokevirtual 159, 828, 67, 3, 9, 0, 0, []) : xm_I) := rfl
theorem r_X10_after_7 : co_X10_after[7]? = some ((14, .goto 5, 0, 0, 9, 0, 0, 0, []) : xm_I) := rfl
theorem r_X10_after_8 : co_X10_after[8]? = some ((17, .bipush (-2), 0, 0, 0, 0, (-2), 0, []) : xm_I) := rfl
theorem r_X10_after_9 : co_X10_after[9]? = some ((19, .istore_n 3, 0, 0, 0, 0, 0, 0, []) : xm_I) := rfl
theorem r_X10_after_10 : co_X10_after[10]? = some ((20, .iload_n 3, 0, 0, 0, 0, 0, 0, []) : xm_I) := rfl
theorem r_X10_after_11 : co_X10_after[11]? = some ((21, .ifCond .eq 8, 0, 0, 15, 0, 0, 0, []) : xm_I) := rfl
theorem r_X10_after_12 : co_X10_after[12]? = some ((24, .iload_n 3, 0, 0, 0, 0, 0, 0, []) : xm_I) := rfl
theorem r_X10_after_13 : co_X10_after[13]? = some ((25, .invokestatic 173, 866, 76, 1, 0, 0, 0, []) : xm_I) := rfl
theorem r_X10_after_14 : co_X10_after[14]? = some ((28, .ireturn, 0, 0, 0, 0, 0, 0, []) : xm_I) := rfl
theorem r_X10_after_15 : co_X10_after[15]? = some ((29, .aload_n 0, 0, 0, 0, 0, 0, 0, []) : xm_I) := rfl
theorem r_X10_after_16 : co_X10_after[16]? = some ((30, .getfield 50, 487, 9, 6, 2, 0, 0, []) : xm_I) := rfl
theorem r_X10_after_17 : co_X10_after[17]? = some ((33, .aload_n 0, 0, 0, 0, 0, 0, 0, []) : xm_I) := rfl
theorem r_X10_after_18 : co_X10_after[18]? = some ((34, .getfield 19, 482, 9, 1, 2, 0, 0, []) : xm_I) := rfl
theorem r_X10_after_19 : co_X10_after[19]? = some ((37, .aload_n 0, 0, 0, 0, 0, 0, 0, []) : xm_I) := rfl
theorem r_X10_after_20 : co_X10_after[20]? = some ((38, .getfield 36, 485, 9, 4, 2, 0, 0, []) : xm_I) := rfl
theorem r_X10_after_21 : co_X10_after[21]? = some ((41, .iload_n 1, 0, 0, 0, 0, 0, 0, []) : xm_I) := rfl
theorem r_X10_after_22 : co_X10_after[22]? = some ((42, .aaload, 0, 0, 0, 0, 0, 0, []) : xm_I) := rfl
theorem r_X10_after_23 : co_X10_after[23]? = some ((43, .invokevirtual 163, 843, 71, 3, 6, 0, 0, []) : xm_I) := rfl
theorem r_X10_after_24 : co_X10_after[24]? = some ((46, .aload_n 0, 0, 0, 0, 0, 0, 0, []) : xm_I) := rfl
theorem r_X10_after_25 : co_X10_after[25]? = some ((47, .aload_n 0, 0, 0, 0, 0, 0, 0, []) : xm_I) := rfl
theorem r_X10_after_26 : co_X10_after[26]? = some ((48, .getfield 50, 487, 9, 6, 2, 0, 0, []) : xm_I) := rfl
theorem r_X10_after_27 : co_X10_after[27]? = some ((51, .getfield 176, 399, 6, 0, 0, 0, 0, []) : xm_I) := rfl
theorem r_X10_after_28 : co_X10_after[28]? = some ((54, .aload_n 0, 0, 0, 0, 0, 0, 0, []) : xm_I) := rfl
theorem r_X10_after_29 : co_X10_after[29]? = some ((55, .getfield 50, 487, 9, 6, 2, 0, 0, []) : xm_I) := rfl
theorem r_X10_after_30 : co_X10_after[30]? = some ((58, .getfield 177, 401, 6, 1, 0, 0, 0, []) : xm_I) := rfl
theorem r_X10_after_31 : co_X10_after[31]? = some ((61, .iload_n 2, 0, 0, 0, 0, 0, 0, []) : xm_I) := rfl
theorem r_X10_after_32 : co_X10_after[32]? = some ((62, .invokevirtual 122, 700, 37, 4, 9, 0, 0, []) : xm_I) := rfl
theorem r_X10_after_33 : co_X10_after[33]? = some ((65, .ireturn, 0, 0, 0, 0, 0, 0, []) : xm_I) := rfl
theorem p_X10_after_0_0 {X : xm_X} {P : List xm_M} {d : Nat} {h : xm_H} {l0 : Nat} {l1 : Int32} {l2 : Int32} {h0 : xm_H} {r0 : Int32} {h1 : xm_H} {r1 : Int32} (q0 : xm_V X P d 75 [.int l2] h (some (.int r0)) h0) (q1 : r0 = (0 : Int32)) (q2 : xm_V X P d 76 [.int (-2 : Int32)] h0 (some (.int r1)) h1) : xm_E X P d co_X10_after 0 [some (.ref l0), some (.int l1), some (.int l2), none] [] h (some (.int r1)) h1 := by
  refine xm_E_s r_X10_after_0 rfl rfl ?_
  refine xm_E_cs [.int l2] [] r_X10_after_1 rfl rfl rfl (Nat.le_of_ble_eq_true rfl) rfl q0 ?_
  refine xm_E_s r_X10_after_2 rfl rfl ?_
  refine xm_E_t q1 ?_
  refine xm_E_s r_X10_after_8 rfl rfl ?_
  refine xm_E_s (ls1 := [some (.ref l0), some (.int l1), some (.int l2), some (.int (-2 : Int32))]) r_X10_after_9 rfl rfl ?_
  refine xm_E_s r_X10_after_10 rfl rfl ?_
  refine xm_E_s r_X10_after_11 rfl rfl ?_
  show xm_E X P d co_X10_after 12 _ _ _ _ _
  refine xm_E_s r_X10_after_12 rfl rfl ?_
  refine xm_E_cs [.int (-2 : Int32)] [] r_X10_after_13 rfl rfl rfl (Nat.le_of_ble_eq_true rfl) rfl q2 ?_
  exact xm_E_iret r_X10_after_14 rfl rfl
theorem p_X10_after_0_1 {X : xm_X} {P : List xm_M} {d : Nat} {h : xm_H} {l0 : Nat} {l1 : Int32} {l2 : Int32} {h0 : xm_H} {r0 : Int32} {h1 : xm_H} {r1 : Int32} {v2 : Nat} {v3 : Nat} {v4 : Nat} {n5 : Nat} {b5 : Nat} {v6 : Nat} {h7 : xm_H} {v8 : Nat} {h9 : xm_H} {r9 : Int32} (q0 : xm_V X P d 75 [.int l2] h (some (.int r0)) h0) (q1 : ¬ (r0 = (0 : Int32))) (q2 : xm_V X P d 67 [.ref l0, .int l1, .int (10 : Int32)] h0 (some (.int r1)) h1) (q3 : X.1[l0]? = some (.inr 9)) (q4 : r1 = (0 : Int32)) (q5 : h1.2.2 l0 6 = some v2) (q6 : h1.2.2 l0 1 = some v3) (q7 : h1.2.2 l0 4 = some v4) (q8 : X.1[v4]? = some (.inl (b5, n5))) (q9 : ¬ (l1 < 0 ∨ n5 ≤ l1.toNatClampNeg)) (q10 : b5 = 4 ∨ b5 = 5) (q11 : h1.2.2 v4 l1.toNatClampNeg = some v6) (q12 : xm_V X P d 71 [.ref v2, .ref v3, .ref v6] h1 none h7) (q13 : X.1[v2]? = some (.inr 6)) (q14 : h7.2.2 l0 6 = some v8) (q15 : X.1[v8]? = some (.inr 6)) (q16 : xm_V X P d 37 [.ref l0, .int (h7.1 v8 0), .int (h7.1 v8 1), .int l2] h7 (some (.int r9)) h9) : xm_E X P d co_X10_after 0 [some (.ref l0), some (.int l1), some (.int l2), none] [] h (some (.int r9)) h9 := by
  refine xm_E_s r_X10_after_0 rfl rfl ?_
  refine xm_E_cs [.int l2] [] r_X10_after_1 rfl rfl rfl (Nat.le_of_ble_eq_true rfl) rfl q0 ?_
  refine xm_E_s r_X10_after_2 rfl rfl ?_
  refine xm_E_f q1 ?_
  refine xm_E_s r_X10_after_3 rfl rfl ?_
  refine xm_E_s r_X10_after_4 rfl rfl ?_
  refine xm_E_s r_X10_after_5 rfl rfl ?_
  refine xm_E_cv [.ref l0, .int l1, .int (10 : Int32)] [] r_X10_after_6 rfl rfl (Nat.le_of_ble_eq_true rfl) (xm_rc q3 (by decide)) rfl q2 ?_
  refine xm_E_s r_X10_after_7 rfl rfl ?_
  refine xm_E_s (ls1 := [some (.ref l0), some (.int l1), some (.int l2), some (.int r1)]) r_X10_after_9 rfl rfl ?_
  refine xm_E_s r_X10_after_10 rfl rfl ?_
  refine xm_E_s r_X10_after_11 rfl rfl ?_
  refine xm_E_t q4 ?_
  refine xm_E_s r_X10_after_15 rfl rfl ?_
  refine xm_E_s r_X10_after_16 rfl (xm_T_gr rfl q3 rfl rfl q5) ?_
  refine xm_E_s r_X10_after_17 rfl rfl ?_
  refine xm_E_s r_X10_after_18 rfl (xm_T_gr rfl q3 rfl rfl q6) ?_
  refine xm_E_s r_X10_after_19 rfl rfl ?_
  refine xm_E_s r_X10_after_20 rfl (xm_T_gr rfl q3 rfl rfl q7) ?_
  refine xm_E_s r_X10_after_21 rfl rfl ?_
  refine xm_E_s r_X10_after_22 rfl (xm_T_aald rfl q8 q10 q9 q11) ?_
  refine xm_E_cv [.ref v2, .ref v3, .ref v6] [] r_X10_after_23 rfl rfl (Nat.le_of_ble_eq_true rfl) (xm_rc q13 (by decide)) rfl q12 ?_
  refine xm_E_s r_X10_after_24 rfl rfl ?_
  refine xm_E_s r_X10_after_25 rfl rfl ?_
  refine xm_E_s r_X10_after_26 rfl (xm_T_gr rfl q3 rfl rfl q14) ?_
  refine xm_E_s r_X10_after_27 rfl (xm_T_gi rfl q15 rfl (Or.inl rfl)) ?_
  refine xm_E_s r_X10_after_28 rfl rfl ?_
  refine xm_E_s r_X10_after_29 rfl (xm_T_gr rfl q3 rfl rfl q14) ?_
  refine xm_E_s r_X10_after_30 rfl (xm_T_gi rfl q15 rfl (Or.inl rfl)) ?_
  refine xm_E_s r_X10_after_31 rfl rfl ?_
  refine xm_E_cv [.ref l0, .int (h7.1 v8 0), .int (h7.1 v8 1), .int l2] [] r_X10_after_32 rfl rfl (Nat.le_of_ble_eq_true rfl) (xm_rc q3 (by decide)) rfl q16 ?_
  exact xm_E_iret r_X10_after_33 rfl rfl
theorem p_X10_after_0_2 {X : xm_X} {P : List xm_M} {d : Nat} {h : xm_H} {l0 : Nat} {l1 : Int32} {l2 : Int32} {h0 : xm_H} {r0 : Int32} {h1 : xm_H} {r1 : Int32} {h2 : xm_H} {r2 : Int32} (q0 : xm_V X P d 75 [.int l2] h (some (.int r0)) h0) (q1 : ¬ (r0 = (0 : Int32))) (q2 : xm_V X P d 67 [.ref l0, .int l1, .int (10 : Int32)] h0 (some (.int r1)) h1) (q3 : X.1[l0]? = some (.inr 9)) (q4 : ¬ (r1 = (0 : Int32))) (q5 : xm_V X P d 76 [.int r1] h1 (some (.int r2)) h2) : xm_E X P d co_X10_after 0 [some (.ref l0), some (.int l1), some (.int l2), none] [] h (some (.int r2)) h2 := by
  refine xm_E_s r_X10_after_0 rfl rfl ?_
  refine xm_E_cs [.int l2] [] r_X10_after_1 rfl rfl rfl (Nat.le_of_ble_eq_true rfl) rfl q0 ?_
  refine xm_E_s r_X10_after_2 rfl rfl ?_
  refine xm_E_f q1 ?_
  refine xm_E_s r_X10_after_3 rfl rfl ?_
  refine xm_E_s r_X10_after_4 rfl rfl ?_
  refine xm_E_s r_X10_after_5 rfl rfl ?_
  refine xm_E_cv [.ref l0, .int l1, .int (10 : Int32)] [] r_X10_after_6 rfl rfl (Nat.le_of_ble_eq_true rfl) (xm_rc q3 (by decide)) rfl q2 ?_
  refine xm_E_s r_X10_after_7 rfl rfl ?_
  refine xm_E_s (ls1 := [some (.ref l0), some (.int l1), some (.int l2), some (.int r1)]) r_X10_after_9 rfl rfl ?_
  refine xm_E_s r_X10_after_10 rfl rfl ?_
  refine xm_E_s r_X10_after_11 rfl rfl ?_
  refine xm_E_f q4 ?_
  refine xm_E_s r_X10_after_12 rfl rfl ?_
  refine xm_E_cs [.int r1] [] r_X10_after_13 rfl rfl rfl (Nat.le_of_ble_eq_true rfl) rfl q5 ?_
  exact xm_E_iret r_X10_after_14 rfl rfl
theorem r_X10_isView_0 : co_X10_isView[0]? = some ((0, .iload_n 0, 0, 0, 0, 0, 0, 0, []) : xm_I) := rfl
theorem r_X10_isView_1 : co_X10_isView[1]? = some ((1, .ifCond .lt 13, 0, 0, 7, 0, 0, 0, []) : xm_I) := rfl
theorem r_X10_isView_2 : co_X10_isView[2]? = some ((4, .iload_n 0, 0, 0, 0, 0, 0, 0, []) : xm_I) := rfl
theorem r_X10_isView_3 : co_X10_isView[3]? = some ((5, .bipush 7, 0, 0, 0, 0, 7, 0, []) : xm_I) := rfl
theorem r_X10_isView_4 : co_X10_isView[4]? = some ((7, .if_icmp .gt 7, 0, 0, 7, 0, 0, 0, []) : xm_I) := rfl
theorem r_X10_isView_5 : co_X10_isView[5]? = some ((10, .iconst 1, 0, 0, 0, 0, 1, 0, []) : xm_I) := rfl
theorem r_X10_isView_6 : co_X10_isView[6]? = some ((11, .goto 4, 0, 0, 8, 0, 0, 0, []) : xm_I) := rfl
theorem r_X10_isView_7 : co_X10_isView[7]? = some ((14, .iconst 0, 0, 0, 0, 0, 0, 0, []) : xm_I) := rfl
theorem r_X10_isView_8 : co_X10_isView[8]? = some ((15, .ireturn, 0, 0, 0, 3, 0, 0, []) : xm_I) := rfl
theorem p_X10_isView_0_0 {X : xm_X} {P : List xm_M} {d : Nat} {h : xm_H} {l0 : Int32} (q0 : l0 < (0 : Int32)) : xm_E X P d co_X10_isView 0 [some (.int l0)] [] h (some (.int (0 : Int32))) h := by
  refine xm_E_s r_X10_isView_0 rfl rfl ?_
  refine xm_E_s r_X10_isView_1 rfl rfl ?_
  refine xm_E_t q0 ?_
  refine xm_E_s r_X10_isView_7 rfl rfl ?_
  exact xm_E_iret r_X10_isView_8 rfl rfl
theorem p_X10_isView_0_1 {X : xm_X} {P : List xm_M} {d : Nat} {h : xm_H} {l0 : Int32} (q0 : ¬ (l0 < (0 : Int32))) (q1 : (7 : Int32) < l0) : xm_E X P d co_X10_isView 0 [some (.int l0)] [] h (some (.int (0 : Int32))) h := by
  refine xm_E_s r_X10_isView_0 rfl rfl ?_
  refine xm_E_s r_X10_isView_1 rfl rfl ?_
  refine xm_E_f q0 ?_
  refine xm_E_s r_X10_isView_2 rfl rfl ?_
  refine xm_E_s r_X10_isView_3 rfl rfl ?_
  refine xm_E_s r_X10_isView_4 rfl rfl ?_
  refine xm_E_t q1 ?_
  refine xm_E_s r_X10_isView_7 rfl rfl ?_
  exact xm_E_iret r_X10_isView_8 rfl rfl
theorem p_X10_isView_0_2 {X : xm_X} {P : List xm_M} {d : Nat} {h : xm_H} {l0 : Int32} (q0 : ¬ (l0 < (0 : Int32))) (q1 : ¬ ((7 : Int32) < l0)) : xm_E X P d co_X10_isView 0 [some (.int l0)] [] h (some (.int (1 : Int32))) h := by
  refine xm_E_s r_X10_isView_0 rfl rfl ?_
  refine xm_E_s r_X10_isView_1 rfl rfl ?_
  refine xm_E_f q0 ?_
  refine xm_E_s r_X10_isView_2 rfl rfl ?_
  refine xm_E_s r_X10_isView_3 rfl rfl ?_
  refine xm_E_s r_X10_isView_4 rfl rfl ?_
  refine xm_E_f q1 ?_
  refine xm_E_s r_X10_isView_5 rfl rfl ?_
  refine xm_E_s r_X10_isView_6 rfl rfl ?_
  exact xm_E_iret r_X10_isView_8 rfl rfl
theorem r_X10_noStateFor_0 : co_X10_noStateFor[0]? = some ((0, .iload_n 0, 0, 0, 0, 0, 0, 0, []) : xm_I) := rfl
theorem r_X10_noStateFor_1 : co_X10_noStateFor[1]? = some ((1, .bipush (-6), 0, 0, 0, 0, (-6), 0, []) : xm_I) := rfl
theorem r_X10_noStateFor_2 : co_X10_noStateFor[2]? = some ((3, .if_icmp .ne 9, 0, 0, 5, 0, 0, 0, []) : xm_I) := rfl
theorem r_X10_noStateFor_3 : co_X10_noStateFor[3]? = some ((6, .sipush (-600), 0, 0, 0, 0, (-600), 0, []) : xm_I) := rfl
theorem r_X10_noStateFor_4 : co_X10_noStateFor[4]? = some ((9, .goto 5, 0, 0, 6, 0, 0, 0, []) : xm_I) := rfl
theorem r_X10_noStateFor_5 : co_X10_noStateFor[5]? = some ((12, .bipush (-100), 0, 0, 0, 0, (-100), 0, []) : xm_I) := rfl
theorem r_X10_noStateFor_6 : co_X10_noStateFor[6]? = some ((14, .ireturn, 0, 0, 0, 0, 0, 0, []) : xm_I) := rfl
theorem p_X10_noStateFor_0_0 {X : xm_X} {P : List xm_M} {d : Nat} {h : xm_H} {l0 : Int32} (q0 : l0 = (-6 : Int32)) : xm_E X P d co_X10_noStateFor 0 [some (.int l0)] [] h (some (.int (-600 : Int32))) h := by
  refine xm_E_s r_X10_noStateFor_0 rfl rfl ?_
  refine xm_E_s r_X10_noStateFor_1 rfl rfl ?_
  refine xm_E_s r_X10_noStateFor_2 rfl rfl ?_
  refine xm_E_t q0 ?_
  refine xm_E_s r_X10_noStateFor_3 rfl rfl ?_
  refine xm_E_s r_X10_noStateFor_4 rfl rfl ?_
  exact xm_E_iret r_X10_noStateFor_6 rfl rfl
theorem p_X10_noStateFor_0_1 {X : xm_X} {P : List xm_M} {d : Nat} {h : xm_H} {l0 : Int32} (q0 : ¬ (l0 = (-6 : Int32))) : xm_E X P d co_X10_noStateFor 0 [some (.int l0)] [] h (some (.int (-100 : Int32))) h := by
  refine xm_E_s r_X10_noStateFor_0 rfl rfl ?_
  refine xm_E_s r_X10_noStateFor_1 rfl rfl ?_
  refine xm_E_s r_X10_noStateFor_2 rfl rfl ?_
  refine xm_E_f q0 ?_
  refine xm_E_s r_X10_noStateFor_5 rfl rfl ?_
  exact xm_E_iret r_X10_noStateFor_6 rfl rfl
theorem r_X10_fewest_0 : co_X10_fewest[0]? = some ((0, .aload_n 0, 0, 0, 0, 0, 0, 0, []) : xm_I) := rfl
theorem r_X10_fewest_1 : co_X10_fewest[1]? = some ((1, .invokevirtual 178, 873, 78, 1, 9, 0, 0, []) : xm_I) := rfl
theorem r_X10_fewest_2 : co_X10_fewest[2]? = some ((4, .ifCond .eq 20, 0, 0, 10, 0, 0, 0, []) : xm_I) := rfl
theorem r_X10_fewest_3 : co_X10_fewest[3]? = some ((7, .aload_n 0, 0, 0, 0, 0, 0, 0, []) : xm_I) := rfl
theorem r_X10_fewest_4 : co_X10_fewest[4]? = some ((8, .aload_n 0, 0, 0, 0, 0, 0, 0, []) : xm_I) := rfl
theorem r_X10_fewest_5 : co_X10_fewest[5]? = some ((9, .getfield 19, 482, 9, 1, 2, 0, 0, []) : xm_I) := rfl
theorem r_X10_fewest_6 : co_X10_fewest[6]? = some ((12, .getfield 103, 305, 8, 0, 2, 0, 0, []) : xm_I) := rfl
theorem r_X10_fewest_7 : co_X10_fewest[7]? = some ((15, .getfield 130, 219, 0, 4, 0, 0, 0, []) : xm_I) := rfl
theorem r_X10_fewest_8 : co_X10_fewest[8]? = some ((18, .invokevirtual 181, 881, 80, 2, 9, 0, 0, []) : xm_I) := rfl
theorem r_X10_fewest_9 : co_X10_fewest[9]? = some ((21, .goto 5, 0, 0, 11, 0, 0, 0, []) : xm_I) := rfl
theorem r_X10_fewest_10 : co_X10_fewest[10]? = some ((24, .bipush (-2), 0, 0, 0, 0, (-2), 0, []) : xm_I) := rfl
theorem r_X10_fewest_11 : co_X10_fewest[11]? = some ((26, .ireturn, 0, 0, 0, 0, 0, 0, []) : xm_I) := rfl
theorem p_X10_fewest_0_0 {X : xm_X} {P : List xm_M} {d : Nat} {h : xm_H} {l0 : Nat} {h0 : xm_H} {r0 : Int32} (q0 : xm_V X P d 78 [.ref l0] h (some (.int r0)) h0) (q1 : X.1[l0]? = some (.inr 9)) (q2 : r0 = (0 : Int32)) : xm_E X P d co_X10_fewest 0 [some (.ref l0)] [] h (some (.int (-2 : Int32))) h0 := by
  refine xm_E_s r_X10_fewest_0 rfl rfl ?_
  refine xm_E_cv [.ref l0] [] r_X10_fewest_1 rfl rfl (Nat.le_of_ble_eq_true rfl) (xm_rc q1 (by decide)) rfl q0 ?_
  refine xm_E_s r_X10_fewest_2 rfl rfl ?_
  refine xm_E_t q2 ?_
  refine xm_E_s r_X10_fewest_10 rfl rfl ?_
  exact xm_E_iret r_X10_fewest_11 rfl rfl
theorem p_X10_fewest_0_1 {X : xm_X} {P : List xm_M} {d : Nat} {h : xm_H} {l0 : Nat} {h0 : xm_H} {r0 : Int32} {v1 : Nat} {v2 : Nat} {h3 : xm_H} {r3 : Int32} (q0 : xm_V X P d 78 [.ref l0] h (some (.int r0)) h0) (q1 : X.1[l0]? = some (.inr 9)) (q2 : ¬ (r0 = (0 : Int32))) (q3 : h0.2.2 l0 1 = some v1) (q4 : X.1[v1]? = some (.inr 8)) (q5 : h0.2.2 v1 0 = some v2) (q6 : X.1[v2]? = some (.inr 0)) (q7 : xm_V X P d 80 [.ref l0, .int (h0.1 v2 4)] h0 (some (.int r3)) h3) : xm_E X P d co_X10_fewest 0 [some (.ref l0)] [] h (some (.int r3)) h3 := by
  refine xm_E_s r_X10_fewest_0 rfl rfl ?_
  refine xm_E_cv [.ref l0] [] r_X10_fewest_1 rfl rfl (Nat.le_of_ble_eq_true rfl) (xm_rc q1 (by decide)) rfl q0 ?_
  refine xm_E_s r_X10_fewest_2 rfl rfl ?_
  refine xm_E_f q2 ?_
  refine xm_E_s r_X10_fewest_3 rfl rfl ?_
  refine xm_E_s r_X10_fewest_4 rfl rfl ?_
  refine xm_E_s r_X10_fewest_5 rfl (xm_T_gr rfl q1 rfl rfl q3) ?_
  refine xm_E_s r_X10_fewest_6 rfl (xm_T_gr rfl q4 rfl rfl q5) ?_
  refine xm_E_s r_X10_fewest_7 rfl (xm_T_gi rfl q6 rfl (Or.inl rfl)) ?_
  refine xm_E_cv [.ref l0, .int (h0.1 v2 4)] [] r_X10_fewest_8 rfl rfl (Nat.le_of_ble_eq_true rfl) (xm_rc q1 (by decide)) rfl q7 ?_
  refine xm_E_s r_X10_fewest_9 rfl rfl ?_
  exact xm_E_iret r_X10_fewest_11 rfl rfl
theorem r_X10_hasWish_0 : co_X10_hasWish[0]? = some ((0, .aload_n 0, 0, 0, 0, 0, 0, 0, []) : xm_I) := rfl
theorem r_X10_hasWish_1 : co_X10_hasWish[1]? = some ((1, .getfield 19, 482, 9, 1, 2, 0, 0, []) : xm_I) := rfl
theorem r_X10_hasWish_2 : co_X10_hasWish[2]? = some ((4, .getfield 103, 305, 8, 0, 2, 0, 0, []) : xm_I) := rfl
theorem r_X10_hasWish_3 : co_X10_hasWish[3]? = some ((7, .getfield 187, 249, 0, 12, 2, 0, 0, []) : xm_I) := rfl
theorem r_X10_hasWish_4 : co_X10_hasWish[4]? = some ((10, .invokevirtual 360, 877, 79, 1, 7, 0, 0, []) : xm_I) := rfl
theorem r_X10_hasWish_5 : co_X10_hasWish[5]? = some ((13, .ireturn, 0, 0, 0, 3, 0, 0, []) : xm_I) := rfl
theorem p_X10_hasWish_0_0 {X : xm_X} {P : List xm_M} {d : Nat} {h : xm_H} {l0 : Nat} {v0 : Nat} {v1 : Nat} {v2 : Nat} {h3 : xm_H} {r3 : Int32} (q0 : X.1[l0]? = some (.inr 9)) (q1 : h.2.2 l0 1 = some v0) (q2 : X.1[v0]? = some (.inr 8)) (q3 : h.2.2 v0 0 = some v1) (q4 : X.1[v1]? = some (.inr 0)) (q5 : h.2.2 v1 12 = some v2) (q6 : xm_V X P d 79 [.ref v2] h (some (.int r3)) h3) (q7 : X.1[v2]? = some (.inr 7)) (q8 : xm_okr 3 r3 = true) : xm_E X P d co_X10_hasWish 0 [some (.ref l0)] [] h (some (.int r3)) h3 := by
  refine xm_E_s r_X10_hasWish_0 rfl rfl ?_
  refine xm_E_s r_X10_hasWish_1 rfl (xm_T_gr rfl q0 rfl rfl q1) ?_
  refine xm_E_s r_X10_hasWish_2 rfl (xm_T_gr rfl q2 rfl rfl q3) ?_
  refine xm_E_s r_X10_hasWish_3 rfl (xm_T_gr rfl q4 rfl rfl q5) ?_
  refine xm_E_cv [.ref v2] [] r_X10_hasWish_4 rfl rfl (Nat.le_of_ble_eq_true rfl) (xm_rc q7 (by decide)) rfl q6 ?_
  exact xm_E_iret r_X10_hasWish_5 rfl q8
theorem r_X10_fewestIn_0 : co_X10_fewestIn[0]? = some ((0, .aload_n 0, 0, 0, 0, 0, 0, 0, []) : xm_I) := rfl
theorem r_X10_fewestIn_1 : co_X10_fewestIn[1]? = some ((1, .getfield 43, 486, 9, 5, 2, 0, 0, []) : xm_I) := rfl
theorem r_X10_fewestIn_2 : co_X10_fewestIn[2]? = some ((4, .aload_n 0, 0, 0, 0, 0, 0, 0, []) : xm_I) := rfl
theorem r_X10_fewestIn_3 : co_X10_fewestIn[3]? = some ((5, .getfield 19, 482, 9, 1, 2, 0, 0, []) : xm_I) := rfl
theorem r_X10_fewestIn_4 : co_X10_fewestIn[4]? = some ((8, .getfield 116, 311, 8, 3, 0, 0, 0, []) : xm_I) := rfl
theorem r_X10_fewestIn_5 : co_X10_fewestIn[5]? = some ((11, .sipush 1023, 0, 0, 0, 0, 1023, 0, []) : xm_I) := rfl
theorem r_X10_fewestIn_6 : co_X10_fewestIn[6]? = some ((14, .iload_n 1, 0, 0, 0, 0, 0, 0, []) : xm_I) := rfl
theorem r_X10_fewestIn_7 : co_X10_fewestIn[7]? = some ((15, .bipush 60, 0, 0, 0, 0, 60, 0, []) : xm_I) := rfl
theorem r_X10_fewestIn_8 : co_X10_fewestIn[8]? = some ((17, .invokevirtual 420, 885, 81, 5, 3, 0, 0, []) : xm_I) := rfl
theorem r_X10_fewestIn_9 : co_X10_fewestIn[9]? = some ((20, .aload_n 0, 0, 0, 0, 0, 0, 0, []) : xm_I) := rfl
theorem r_X10_fewestIn_10 : co_X10_fewestIn[10]? = some ((21, .getfield 43, 486, 9, 5, 2, 0, 0, []) : xm_I) := rfl
theorem r_X10_fewestIn_11 : co_X10_fewestIn[11]? = some ((24, .aload_n 0, 0, 0, 0, 0, 0, 0, []) : xm_I) := rfl
theorem r_X10_fewestIn_12 : co_X10_fewestIn[12]? = some ((25, .getfield 43, 486, 9, 5, 2, 0, 0, []) : xm_I) := rfl
theorem r_X10_fewestIn_13 : co_X10_fewestIn[13]? = some ((28, .aload_n 0, 0, 0, 0, 0, 0, 0, []) : xm_I) := rfl
theorem r_X10_fewestIn_14 : co_X10_fewestIn[14]? = some ((29, .getfield 19, 482, 9, 1, 2, 0, 0, []) : xm_I) := rfl
theorem r_X10_fewestIn_15 : co_X10_fewestIn[15]? = some ((32, .getfield 103, 305, 8, 0, 2, 0, 0, []) : xm_I) := rfl
theorem r_X10_fewestIn_16 : co_X10_fewestIn[16]? = some ((35, .getfield 187, 249, 0, 12, 2, 0, 0, []) : xm_I) := rfl
theorem r_X10_fewestIn_17 : co_X10_fewestIn[17]? = some ((38, .invokevirtual 191, 916, 87, 2, 3, 0, 0, []) : xm_I) := rfl
theorem r_X10_fewestIn_18 : co_X10_fewestIn[18]? = some ((41, .invokevirtual 209, 929, 89, 2, 3, 0, 0, []) : xm_I) := rfl
theorem r_X10_fewestIn_19 : co_X10_fewestIn[19]? = some ((44, .ireturn, 0, 0, 0, 0, 0, 0, []) : xm_I) := rfl
theorem p_X10_fewestIn_0_0 {X : xm_X} {P : List xm_M} {d : Nat} {h : xm_H} {l0 : Nat} {l1 : Int32} {v0 : Nat} {v1 : Nat} {h2 : xm_H} {v3 : Nat} {v4 : Nat} {v5 : Nat} {v6 : Nat} {h7 : xm_H} {r7 : Int32} {h8 : xm_H} {r8 : Int32} (q0 : X.1[l0]? = some (.inr 9)) (q1 : h.2.2 l0 5 = some v0) (q2 : h.2.2 l0 1 = some v1) (q3 : X.1[v1]? = some (.inr 8)) (q4 : xm_V X P d 81 [.ref v0, .int (h.1 v1 3), .int (1023 : Int32), .int l1, .int (60 : Int32)] h none h2) (q5 : X.1[v0]? = some (.inr 3)) (q6 : h2.2.2 l0 5 = some v3) (q7 : h2.2.2 l0 1 = some v4) (q8 : X.1[v4]? = some (.inr 8)) (q9 : h2.2.2 v4 0 = some v5) (q10 : X.1[v5]? = some (.inr 0)) (q11 : h2.2.2 v5 12 = some v6) (q12 : xm_V X P d 87 [.ref v3, .ref v6] h2 (some (.int r7)) h7) (q13 : X.1[v3]? = some (.inr 3)) (q14 : xm_V X P d 89 [.ref v3, .int r7] h7 (some (.int r8)) h8) : xm_E X P d co_X10_fewestIn 0 [some (.ref l0), some (.int l1)] [] h (some (.int r8)) h8 := by
  refine xm_E_s r_X10_fewestIn_0 rfl rfl ?_
  refine xm_E_s r_X10_fewestIn_1 rfl (xm_T_gr rfl q0 rfl rfl q1) ?_
  refine xm_E_s r_X10_fewestIn_2 rfl rfl ?_
  refine xm_E_s r_X10_fewestIn_3 rfl (xm_T_gr rfl q0 rfl rfl q2) ?_
  refine xm_E_s r_X10_fewestIn_4 rfl (xm_T_gi rfl q3 rfl (Or.inl rfl)) ?_
  refine xm_E_s r_X10_fewestIn_5 rfl rfl ?_
  refine xm_E_s r_X10_fewestIn_6 rfl rfl ?_
  refine xm_E_s r_X10_fewestIn_7 rfl rfl ?_
  refine xm_E_cv [.ref v0, .int (h.1 v1 3), .int (1023 : Int32), .int l1, .int (60 : Int32)] [] r_X10_fewestIn_8 rfl rfl (Nat.le_of_ble_eq_true rfl) (xm_rc q5 (by decide)) rfl q4 ?_
  refine xm_E_s r_X10_fewestIn_9 rfl rfl ?_
  refine xm_E_s r_X10_fewestIn_10 rfl (xm_T_gr rfl q0 rfl rfl q6) ?_
  refine xm_E_s r_X10_fewestIn_11 rfl rfl ?_
  refine xm_E_s r_X10_fewestIn_12 rfl (xm_T_gr rfl q0 rfl rfl q6) ?_
  refine xm_E_s r_X10_fewestIn_13 rfl rfl ?_
  refine xm_E_s r_X10_fewestIn_14 rfl (xm_T_gr rfl q0 rfl rfl q7) ?_
  refine xm_E_s r_X10_fewestIn_15 rfl (xm_T_gr rfl q8 rfl rfl q9) ?_
  refine xm_E_s r_X10_fewestIn_16 rfl (xm_T_gr rfl q10 rfl rfl q11) ?_
  refine xm_E_cv [.ref v3, .ref v6] [.ref v3] r_X10_fewestIn_17 rfl rfl (Nat.le_of_ble_eq_true rfl) (xm_rc q13 (by decide)) rfl q12 ?_
  refine xm_E_cv [.ref v3, .int r7] [] r_X10_fewestIn_18 rfl rfl (Nat.le_of_ble_eq_true rfl) (xm_rc q13 (by decide)) rfl q14 ?_
  exact xm_E_iret r_X10_fewestIn_19 rfl rfl
theorem r_X10_step_0 : co_X10_step[0]? = some ((0, .aload_n 0, 0, 0, 0, 0, 0, 0, []) : xm_I) := rfl
theorem r_X10_step_1 : co_X10_step[1]? = some ((1, .invokevirtual 178, 873, 78, 1, 9, 0, 0, []) : xm_I) := rfl
theorem r_X10_step_2 : co_X10_step[2]? = some ((4, .ifCond .ne 6, 0, 0, 5, 0, 0, 0, []) : xm_I) := rfl
theorem r_X10_step_3 : co_X10_step[3]? = some ((7, .bipush (-2), 0, 0, 0, 0, (-2), 0, []) : xm_I) := rfl
theorem r_X10_step_4 : co_X10_step[4]? = some ((9, .ireturn, 0, 0, 0, 0, 0, 0, []) : xm_I) := rfl
theorem r_X10_step_5 : co_X10_step[5]? = some ((10, .aload_n 0, 0, 0, 0, 0, 0, 0, []) : xm_I) := rfl
theorem r_X10_step_6 : co_X10_step[6]? = some ((11, .invokevirtual 184, 937, 91, 1, 9, 0, 0, []) : xm_I) := rfl
theorem r_X10_step_7 : co_X10_step[7]? = some ((14, .aload_n 0, 0, 0, 0, 0, 0, 0, []) : xm_I) := rfl
theorem r_X10_step_8 : co_X10_step[8]? = some ((15, .getfield 43, 486, 9, 5, 2, 0, 0, []) : xm_I) := rfl
theorem r_X10_step_9 : co_X10_step[9]? = some ((18, .aload_n 0, 0, 0, 0, 0, 0, 0, []) : xm_I) := rfl
theorem r_X10_step_10 : co_X10_step[10]? = some ((19, .getfield 43, 486, 9, 5, 2, 0, 0, []) : xm_I) := rfl
theorem r_X10_step_11 : co_X10_step[11]? = some ((22, .aload_n 0, 0, 0, 0, 0, 0, 0, []) : xm_I) := rfl
theorem r_X10_step_12 : co_X10_step[12]? = some ((23, .getfield 19, 482, 9, 1, 2, 0, 0, []) : xm_I) := rfl
theorem r_X10_step_13 : co_X10_step[13]? = some ((26, .getfield 103, 305, 8, 0, 2, 0, 0, []) : xm_I) := rfl
theorem r_X10_step_14 : co_X10_step[14]? = some ((29, .getfield 187, 249, 0, 12, 2, 0, 0, []) : xm_I) := rfl
theorem r_X10_step_15 : co_X10_step[15]? = some ((32, .invokevirtual 191, 916, 87, 2, 3, 0, 0, []) : xm_I) := rfl
theorem r_X10_step_16 : co_X10_step[16]? = some ((35, .iload_n 1, 0, 0, 0, 0, 0, 0, []) : xm_I) := rfl
theorem r_X10_step_17 : co_X10_step[17]? = some ((36, .invokevirtual 195, 941, 92, 3, 3, 0, 0, []) : xm_I) := rfl
theorem r_X10_step_18 : co_X10_step[18]? = some ((39, .ireturn, 0, 0, 0, 0, 0, 0, []) : xm_I) := rfl
theorem p_X10_step_0_0 {X : xm_X} {P : List xm_M} {d : Nat} {h : xm_H} {l0 : Nat} {l1 : Int32} {h0 : xm_H} {r0 : Int32} (q0 : xm_V X P d 78 [.ref l0] h (some (.int r0)) h0) (q1 : X.1[l0]? = some (.inr 9)) (q2 : r0 = (0 : Int32)) : xm_E X P d co_X10_step 0 [some (.ref l0), some (.int l1)] [] h (some (.int (-2 : Int32))) h0 := by
  refine xm_E_s r_X10_step_0 rfl rfl ?_
  refine xm_E_cv [.ref l0] [] r_X10_step_1 rfl rfl (Nat.le_of_ble_eq_true rfl) (xm_rc q1 (by decide)) rfl q0 ?_
  refine xm_E_s r_X10_step_2 rfl rfl ?_
  refine xm_E_t q2 ?_
  refine xm_E_s r_X10_step_3 rfl rfl ?_
  exact xm_E_iret r_X10_step_4 rfl rfl
theorem p_X10_step_0_1 {X : xm_X} {P : List xm_M} {d : Nat} {h : xm_H} {l0 : Nat} {l1 : Int32} {h0 : xm_H} {r0 : Int32} {h1 : xm_H} {v2 : Nat} {v3 : Nat} {v4 : Nat} {v5 : Nat} {h6 : xm_H} {r6 : Int32} {h7 : xm_H} {r7 : Int32} (q0 : xm_V X P d 78 [.ref l0] h (some (.int r0)) h0) (q1 : X.1[l0]? = some (.inr 9)) (q2 : ¬ (r0 = (0 : Int32))) (q3 : xm_V X P d 91 [.ref l0] h0 none h1) (q4 : h1.2.2 l0 5 = some v2) (q5 : h1.2.2 l0 1 = some v3) (q6 : X.1[v3]? = some (.inr 8)) (q7 : h1.2.2 v3 0 = some v4) (q8 : X.1[v4]? = some (.inr 0)) (q9 : h1.2.2 v4 12 = some v5) (q10 : xm_V X P d 87 [.ref v2, .ref v5] h1 (some (.int r6)) h6) (q11 : X.1[v2]? = some (.inr 3)) (q12 : xm_V X P d 92 [.ref v2, .int r6, .int l1] h6 (some (.int r7)) h7) : xm_E X P d co_X10_step 0 [some (.ref l0), some (.int l1)] [] h (some (.int r7)) h7 := by
  refine xm_E_s r_X10_step_0 rfl rfl ?_
  refine xm_E_cv [.ref l0] [] r_X10_step_1 rfl rfl (Nat.le_of_ble_eq_true rfl) (xm_rc q1 (by decide)) rfl q0 ?_
  refine xm_E_s r_X10_step_2 rfl rfl ?_
  refine xm_E_f q2 ?_
  refine xm_E_s r_X10_step_5 rfl rfl ?_
  refine xm_E_cv [.ref l0] [] r_X10_step_6 rfl rfl (Nat.le_of_ble_eq_true rfl) (xm_rc q1 (by decide)) rfl q3 ?_
  refine xm_E_s r_X10_step_7 rfl rfl ?_
  refine xm_E_s r_X10_step_8 rfl (xm_T_gr rfl q1 rfl rfl q4) ?_
  refine xm_E_s r_X10_step_9 rfl rfl ?_
  refine xm_E_s r_X10_step_10 rfl (xm_T_gr rfl q1 rfl rfl q4) ?_
  refine xm_E_s r_X10_step_11 rfl rfl ?_
  refine xm_E_s r_X10_step_12 rfl (xm_T_gr rfl q1 rfl rfl q5) ?_
  refine xm_E_s r_X10_step_13 rfl (xm_T_gr rfl q6 rfl rfl q7) ?_
  refine xm_E_s r_X10_step_14 rfl (xm_T_gr rfl q8 rfl rfl q9) ?_
  refine xm_E_cv [.ref v2, .ref v5] [.ref v2] r_X10_step_15 rfl rfl (Nat.le_of_ble_eq_true rfl) (xm_rc q11 (by decide)) rfl q10 ?_
  refine xm_E_s r_X10_step_16 rfl rfl ?_
  refine xm_E_cv [.ref v2, .int r6, .int l1] [] r_X10_step_17 rfl rfl (Nat.le_of_ble_eq_true rfl) (xm_rc q11 (by decide)) rfl q12 ?_
  exact xm_E_iret r_X10_step_18 rfl rfl
theorem r_X10_exploreAhead_0 : co_X10_exploreAhead[0]? = some ((0, .aload_n 0, 0, 0, 0, 0, 0, 0, []) : xm_I) := rfl
theorem r_X10_exploreAhead_1 : co_X10_exploreAhead[1]? = some ((1, .getfield 43, 486, 9, 5, 2, 0, 0, []) : xm_I) := rfl
theorem r_X10_exploreAhead_2 : co_X10_exploreAhead[2]? = some ((4, .aload_n 0, 0, 0, 0, 0, 0, 0, []) : xm_I) := rfl
theorem r_X10_exploreAhead_3 : co_X10_exploreAhead[3]? = some ((5, .getfield 19, 482, 9, 1, 2, 0, 0, []) : xm_I) := rfl
theorem r_X10_exploreAhead_4 : co_X10_exploreAhead[4]? = some ((8, .getfield 116, 311, 8, 3, 0, 0, 0, []) : xm_I) := rfl
theorem r_X10_exploreAhead_5 : co_X10_exploreAhead[5]? = some ((11, .sipush 1023, 0, 0, 0, 0, 1023, 0, []) : xm_I) := rfl
theorem r_X10_exploreAhead_6 : co_X10_exploreAhead[6]? = some ((14, .aload_n 0, 0, 0, 0, 0, 0, 0, []) : xm_I) := rfl
theorem r_X10_exploreAhead_7 : co_X10_exploreAhead[7]? = some ((15, .getfield 19, 482, 9, 1, 2, 0, 0, []) : xm_I) := rfl
theorem r_X10_exploreAhead_8 : co_X10_exploreAhead[8]? = some ((18, .getfield 103, 305, 8, 0, 2, 0, 0, []) : xm_I) := rfl
theorem r_X10_exploreAhead_9 : co_X10_exploreAhead[9]? = some ((21, .getfield 130, 219, 0, 4, 0, 0, 0, []) : xm_I) := rfl
theorem r_X10_exploreAhead_10 : co_X10_exploreAhead[10]? = some ((24, .bipush 60, 0, 0, 0, 0, 60, 0, []) : xm_I) := rfl
theorem r_X10_exploreAhead_11 : co_X10_exploreAhead[11]? = some ((26, .invokevirtual 420, 885, 81, 5, 3, 0, 0, []) : xm_I) := rfl
theorem r_X10_exploreAhead_12 : co_X10_exploreAhead[12]? = some ((29, .return_, 0, 0, 0, 0, 0, 0, []) : xm_I) := rfl
theorem p_X10_exploreAhead_0_0 {X : xm_X} {P : List xm_M} {d : Nat} {h : xm_H} {l0 : Nat} {v0 : Nat} {v1 : Nat} {v2 : Nat} {h3 : xm_H} (q0 : X.1[l0]? = some (.inr 9)) (q1 : h.2.2 l0 5 = some v0) (q2 : h.2.2 l0 1 = some v1) (q3 : X.1[v1]? = some (.inr 8)) (q4 : h.2.2 v1 0 = some v2) (q5 : X.1[v2]? = some (.inr 0)) (q6 : xm_V X P d 81 [.ref v0, .int (h.1 v1 3), .int (1023 : Int32), .int (h.1 v2 4), .int (60 : Int32)] h none h3) (q7 : X.1[v0]? = some (.inr 3)) : xm_E X P d co_X10_exploreAhead 0 [some (.ref l0)] [] h none h3 := by
  refine xm_E_s r_X10_exploreAhead_0 rfl rfl ?_
  refine xm_E_s r_X10_exploreAhead_1 rfl (xm_T_gr rfl q0 rfl rfl q1) ?_
  refine xm_E_s r_X10_exploreAhead_2 rfl rfl ?_
  refine xm_E_s r_X10_exploreAhead_3 rfl (xm_T_gr rfl q0 rfl rfl q2) ?_
  refine xm_E_s r_X10_exploreAhead_4 rfl (xm_T_gi rfl q3 rfl (Or.inl rfl)) ?_
  refine xm_E_s r_X10_exploreAhead_5 rfl rfl ?_
  refine xm_E_s r_X10_exploreAhead_6 rfl rfl ?_
  refine xm_E_s r_X10_exploreAhead_7 rfl (xm_T_gr rfl q0 rfl rfl q2) ?_
  refine xm_E_s r_X10_exploreAhead_8 rfl (xm_T_gr rfl q3 rfl rfl q4) ?_
  refine xm_E_s r_X10_exploreAhead_9 rfl (xm_T_gi rfl q5 rfl (Or.inl rfl)) ?_
  refine xm_E_s r_X10_exploreAhead_10 rfl rfl ?_
  refine xm_E_cv [.ref v0, .int (h.1 v1 3), .int (1023 : Int32), .int (h.1 v2 4), .int (60 : Int32)] [] r_X10_exploreAhead_11 rfl rfl (Nat.le_of_ble_eq_true rfl) (xm_rc q7 (by decide)) rfl q6 ?_
  exact xm_E_ret r_X10_exploreAhead_12 rfl
theorem r_X10_quickest_0 : co_X10_quickest[0]? = some ((0, .aload_n 0, 0, 0, 0, 0, 0, 0, []) : xm_I) := rfl
theorem r_X10_quickest_1 : co_X10_quickest[1]? = some ((1, .invokevirtual 178, 873, 78, 1, 9, 0, 0, []) : xm_I) := rfl
theorem r_X10_quickest_2 : co_X10_quickest[2]? = some ((4, .ifCond .ne 6, 0, 0, 5, 0, 0, 0, []) : xm_I) := rfl
theorem r_X10_quickest_3 : co_X10_quickest[3]? = some ((7, .bipush (-2), 0, 0, 0, 0, (-2), 0, []) : xm_I) := rfl
theorem r_X10_quickest_4 : co_X10_quickest[4]? = some ((9, .ireturn, 0, 0, 0, 0, 0, 0, []) : xm_I) := rfl
theorem r_X10_quickest_5 : co_X10_quickest[5]? = some ((10, .aload_n 0, 0, 0, 0, 0, 0, 0, []) : xm_I) := rfl
theorem r_X10_quickest_6 : co_X10_quickest[6]? = some ((11, .invokevirtual 184, 937, 91, 1, 9, 0, 0, []) : xm_I) := rfl
theorem r_X10_quickest_7 : co_X10_quickest[7]? = some ((14, .aload_n 0, 0, 0, 0, 0, 0, 0, []) : xm_I) := rfl
theorem r_X10_quickest_8 : co_X10_quickest[8]? = some ((15, .getfield 43, 486, 9, 5, 2, 0, 0, []) : xm_I) := rfl
theorem r_X10_quickest_9 : co_X10_quickest[9]? = some ((18, .aload_n 0, 0, 0, 0, 0, 0, 0, []) : xm_I) := rfl
theorem r_X10_quickest_10 : co_X10_quickest[10]? = some ((19, .getfield 19, 482, 9, 1, 2, 0, 0, []) : xm_I) := rfl
theorem r_X10_quickest_11 : co_X10_quickest[11]? = some ((22, .getfield 103, 305, 8, 0, 2, 0, 0, []) : xm_I) := rfl
theorem r_X10_quickest_12 : co_X10_quickest[12]? = some ((25, .invokevirtual 198, 950, 94, 2, 3, 0, 0, []) : xm_I) := rfl
theorem r_X10_quickest_13 : co_X10_quickest[13]? = some ((28, .ireturn, 0, 0, 0, 0, 0, 0, []) : xm_I) := rfl
theorem p_X10_quickest_0_0 {X : xm_X} {P : List xm_M} {d : Nat} {h : xm_H} {l0 : Nat} {h0 : xm_H} {r0 : Int32} (q0 : xm_V X P d 78 [.ref l0] h (some (.int r0)) h0) (q1 : X.1[l0]? = some (.inr 9)) (q2 : r0 = (0 : Int32)) : xm_E X P d co_X10_quickest 0 [some (.ref l0)] [] h (some (.int (-2 : Int32))) h0 := by
  refine xm_E_s r_X10_quickest_0 rfl rfl ?_
  refine xm_E_cv [.ref l0] [] r_X10_quickest_1 rfl rfl (Nat.le_of_ble_eq_true rfl) (xm_rc q1 (by decide)) rfl q0 ?_
  refine xm_E_s r_X10_quickest_2 rfl rfl ?_
  refine xm_E_t q2 ?_
  refine xm_E_s r_X10_quickest_3 rfl rfl ?_
  exact xm_E_iret r_X10_quickest_4 rfl rfl
theorem p_X10_quickest_0_1 {X : xm_X} {P : List xm_M} {d : Nat} {h : xm_H} {l0 : Nat} {h0 : xm_H} {r0 : Int32} {h1 : xm_H} {v2 : Nat} {v3 : Nat} {v4 : Nat} {h5 : xm_H} {r5 : Int32} (q0 : xm_V X P d 78 [.ref l0] h (some (.int r0)) h0) (q1 : X.1[l0]? = some (.inr 9)) (q2 : ¬ (r0 = (0 : Int32))) (q3 : xm_V X P d 91 [.ref l0] h0 none h1) (q4 : h1.2.2 l0 5 = some v2) (q5 : h1.2.2 l0 1 = some v3) (q6 : X.1[v3]? = some (.inr 8)) (q7 : h1.2.2 v3 0 = some v4) (q8 : xm_V X P d 94 [.ref v2, .ref v4] h1 (some (.int r5)) h5) (q9 : X.1[v2]? = some (.inr 3)) : xm_E X P d co_X10_quickest 0 [some (.ref l0)] [] h (some (.int r5)) h5 := by
  refine xm_E_s r_X10_quickest_0 rfl rfl ?_
  refine xm_E_cv [.ref l0] [] r_X10_quickest_1 rfl rfl (Nat.le_of_ble_eq_true rfl) (xm_rc q1 (by decide)) rfl q0 ?_
  refine xm_E_s r_X10_quickest_2 rfl rfl ?_
  refine xm_E_f q2 ?_
  refine xm_E_s r_X10_quickest_5 rfl rfl ?_
  refine xm_E_cv [.ref l0] [] r_X10_quickest_6 rfl rfl (Nat.le_of_ble_eq_true rfl) (xm_rc q1 (by decide)) rfl q3 ?_
  refine xm_E_s r_X10_quickest_7 rfl rfl ?_
  refine xm_E_s r_X10_quickest_8 rfl (xm_T_gr rfl q1 rfl rfl q4) ?_
  refine xm_E_s r_X10_quickest_9 rfl rfl ?_
  refine xm_E_s r_X10_quickest_10 rfl (xm_T_gr rfl q1 rfl rfl q5) ?_
  refine xm_E_s r_X10_quickest_11 rfl (xm_T_gr rfl q6 rfl rfl q7) ?_
  refine xm_E_cv [.ref v2, .ref v4] [] r_X10_quickest_12 rfl rfl (Nat.le_of_ble_eq_true rfl) (xm_rc q9 (by decide)) rfl q8 ?_
  exact xm_E_iret r_X10_quickest_13 rfl rfl
theorem r_X10_quick_0 : co_X10_quick[0]? = some ((0, .aload_n 0, 0, 0, 0, 0, 0, 0, []) : xm_I) := rfl
theorem r_X10_quick_1 : co_X10_quick[1]? = some ((1, .invokevirtual 178, 873, 78, 1, 9, 0, 0, []) : xm_I) := rfl
theorem r_X10_quick_2 : co_X10_quick[2]? = some ((4, .ifCond .ne 6, 0, 0, 5, 0, 0, 0, []) : xm_I) := rfl
theorem r_X10_quick_3 : co_X10_quick[3]? = some ((7, .bipush (-2), 0, 0, 0, 0, (-2), 0, []) : xm_I) := rfl
theorem r_X10_quick_4 : co_X10_quick[4]? = some ((9, .ireturn, 0, 0, 0, 0, 0, 0, []) : xm_I) := rfl
theorem r_X10_quick_5 : co_X10_quick[5]? = some ((10, .aload_n 0, 0, 0, 0, 0, 0, 0, []) : xm_I) := rfl
theorem r_X10_quick_6 : co_X10_quick[6]? = some ((11, .invokevirtual 184, 937, 91, 1, 9, 0, 0, []) : xm_I) := rfl
theorem r_X10_quick_7 : co_X10_quick[7]? = some ((14, .aload_n 0, 0, 0, 0, 0, 0, 0, []) : xm_I) := rfl
theorem r_X10_quick_8 : co_X10_quick[8]? = some ((15, .getfield 43, 486, 9, 5, 2, 0, 0, []) : xm_I) := rfl
theorem r_X10_quick_9 : co_X10_quick[9]? = some ((18, .aload_n 0, 0, 0, 0, 0, 0, 0, []) : xm_I) := rfl
theorem r_X10_quick_10 : co_X10_quick[10]? = some ((19, .getfield 19, 482, 9, 1, 2, 0, 0, []) : xm_I) := rfl
theorem r_X10_quick_11 : co_X10_quick[11]? = some ((22, .getfield 103, 305, 8, 0, 2, 0, 0, []) : xm_I) := rfl
theorem r_X10_quick_12 : co_X10_quick[12]? = some ((25, .iload_n 1, 0, 0, 0, 0, 0, 0, []) : xm_I) := rfl
theorem r_X10_quick_13 : co_X10_quick[13]? = some ((26, .invokevirtual 202, 969, 98, 3, 3, 0, 0, []) : xm_I) := rfl
theorem r_X10_quick_14 : co_X10_quick[14]? = some ((29, .ireturn, 0, 0, 0, 0, 0, 0, []) : xm_I) := rfl
theorem p_X10_quick_0_0 {X : xm_X} {P : List xm_M} {d : Nat} {h : xm_H} {l0 : Nat} {l1 : Int32} {h0 : xm_H} {r0 : Int32} (q0 : xm_V X P d 78 [.ref l0] h (some (.int r0)) h0) (q1 : X.1[l0]? = some (.inr 9)) (q2 : r0 = (0 : Int32)) : xm_E X P d co_X10_quick 0 [some (.ref l0), some (.int l1)] [] h (some (.int (-2 : Int32))) h0 := by
  refine xm_E_s r_X10_quick_0 rfl rfl ?_
  refine xm_E_cv [.ref l0] [] r_X10_quick_1 rfl rfl (Nat.le_of_ble_eq_true rfl) (xm_rc q1 (by decide)) rfl q0 ?_
  refine xm_E_s r_X10_quick_2 rfl rfl ?_
  refine xm_E_t q2 ?_
  refine xm_E_s r_X10_quick_3 rfl rfl ?_
  exact xm_E_iret r_X10_quick_4 rfl rfl
theorem p_X10_quick_0_1 {X : xm_X} {P : List xm_M} {d : Nat} {h : xm_H} {l0 : Nat} {l1 : Int32} {h0 : xm_H} {r0 : Int32} {h1 : xm_H} {v2 : Nat} {v3 : Nat} {v4 : Nat} {h5 : xm_H} {r5 : Int32} (q0 : xm_V X P d 78 [.ref l0] h (some (.int r0)) h0) (q1 : X.1[l0]? = some (.inr 9)) (q2 : ¬ (r0 = (0 : Int32))) (q3 : xm_V X P d 91 [.ref l0] h0 none h1) (q4 : h1.2.2 l0 5 = some v2) (q5 : h1.2.2 l0 1 = some v3) (q6 : X.1[v3]? = some (.inr 8)) (q7 : h1.2.2 v3 0 = some v4) (q8 : xm_V X P d 98 [.ref v2, .ref v4, .int l1] h1 (some (.int r5)) h5) (q9 : X.1[v2]? = some (.inr 3)) : xm_E X P d co_X10_quick 0 [some (.ref l0), some (.int l1)] [] h (some (.int r5)) h5 := by
  refine xm_E_s r_X10_quick_0 rfl rfl ?_
  refine xm_E_cv [.ref l0] [] r_X10_quick_1 rfl rfl (Nat.le_of_ble_eq_true rfl) (xm_rc q1 (by decide)) rfl q0 ?_
  refine xm_E_s r_X10_quick_2 rfl rfl ?_
  refine xm_E_f q2 ?_
  refine xm_E_s r_X10_quick_5 rfl rfl ?_
  refine xm_E_cv [.ref l0] [] r_X10_quick_6 rfl rfl (Nat.le_of_ble_eq_true rfl) (xm_rc q1 (by decide)) rfl q3 ?_
  refine xm_E_s r_X10_quick_7 rfl rfl ?_
  refine xm_E_s r_X10_quick_8 rfl (xm_T_gr rfl q1 rfl rfl q4) ?_
  refine xm_E_s r_X10_quick_9 rfl rfl ?_
  refine xm_E_s r_X10_quick_10 rfl (xm_T_gr rfl q1 rfl rfl q5) ?_
  refine xm_E_s r_X10_quick_11 rfl (xm_T_gr rfl q6 rfl rfl q7) ?_
  refine xm_E_s r_X10_quick_12 rfl rfl ?_
  refine xm_E_cv [.ref v2, .ref v4, .int l1] [] r_X10_quick_13 rfl rfl (Nat.le_of_ble_eq_true rfl) (xm_rc q9 (by decide)) rfl q8 ?_
  exact xm_E_iret r_X10_quick_14 rfl rfl
theorem r_X10_alone_0 : co_X10_alone[0]? = some ((0, .aload_n 0, 0, 0, 0, 0, 0, 0, []) : xm_I) := rfl
theorem r_X10_alone_1 : co_X10_alone[1]? = some ((1, .invokevirtual 178, 873, 78, 1, 9, 0, 0, []) : xm_I) := rfl
theorem r_X10_alone_2 : co_X10_alone[2]? = some ((4, .ifCond .ne 6, 0, 0, 5, 0, 0, 0, []) : xm_I) := rfl
theorem r_X10_alone_3 : co_X10_alone[3]? = some ((7, .bipush (-2), 0, 0, 0, 0, (-2), 0, []) : xm_I) := rfl
theorem r_X10_alone_4 : co_X10_alone[4]? = some ((9, .ireturn, 0, 0, 0, 0, 0, 0, []) : xm_I) := rfl
theorem r_X10_alone_5 : co_X10_alone[5]? = some ((10, .aload_n 0, 0, 0, 0, 0, 0, 0, []) : xm_I) := rfl
theorem r_X10_alone_6 : co_X10_alone[6]? = some ((11, .invokevirtual 206, 982, 101, 1, 9, 0, 0, []) : xm_I) := rfl
theorem r_X10_alone_7 : co_X10_alone[7]? = some ((14, .aload_n 0, 0, 0, 0, 0, 0, 0, []) : xm_I) := rfl
theorem r_X10_alone_8 : co_X10_alone[8]? = some ((15, .getfield 43, 486, 9, 5, 2, 0, 0, []) : xm_I) := rfl
theorem r_X10_alone_9 : co_X10_alone[9]? = some ((18, .aload_n 0, 0, 0, 0, 0, 0, 0, []) : xm_I) := rfl
theorem r_X10_alone_10 : co_X10_alone[10]? = some ((19, .getfield 43, 486, 9, 5, 2, 0, 0, []) : xm_I) := rfl
theorem r_X10_alone_11 : co_X10_alone[11]? = some ((22, .aload_n 0, 0, 0, 0, 0, 0, 0, []) : xm_I) := rfl
theorem r_X10_alone_12 : co_X10_alone[12]? = some ((23, .getfield 19, 482, 9, 1, 2, 0, 0, []) : xm_I) := rfl
theorem r_X10_alone_13 : co_X10_alone[13]? = some ((26, .getfield 103, 305, 8, 0, 2, 0, 0, []) : xm_I) := rfl
theorem r_X10_alone_14 : co_X10_alone[14]? = some ((29, .getfield 187, 249, 0, 12, 2, 0, 0, []) : xm_I) := rfl
theorem r_X10_alone_15 : co_X10_alone[15]? = some ((32, .invokevirtual 191, 916, 87, 2, 3, 0, 0, []) : xm_I) := rfl
theorem r_X10_alone_16 : co_X10_alone[16]? = some ((35, .invokevirtual 209, 929, 89, 2, 3, 0, 0, []) : xm_I) := rfl
theorem r_X10_alone_17 : co_X10_alone[17]? = some ((38, .ireturn, 0, 0, 0, 0, 0, 0, []) : xm_I) := rfl
theorem p_X10_alone_0_0 {X : xm_X} {P : List xm_M} {d : Nat} {h : xm_H} {l0 : Nat} {h0 : xm_H} {r0 : Int32} (q0 : xm_V X P d 78 [.ref l0] h (some (.int r0)) h0) (q1 : X.1[l0]? = some (.inr 9)) (q2 : r0 = (0 : Int32)) : xm_E X P d co_X10_alone 0 [some (.ref l0)] [] h (some (.int (-2 : Int32))) h0 := by
  refine xm_E_s r_X10_alone_0 rfl rfl ?_
  refine xm_E_cv [.ref l0] [] r_X10_alone_1 rfl rfl (Nat.le_of_ble_eq_true rfl) (xm_rc q1 (by decide)) rfl q0 ?_
  refine xm_E_s r_X10_alone_2 rfl rfl ?_
  refine xm_E_t q2 ?_
  refine xm_E_s r_X10_alone_3 rfl rfl ?_
  exact xm_E_iret r_X10_alone_4 rfl rfl
theorem p_X10_alone_0_1 {X : xm_X} {P : List xm_M} {d : Nat} {h : xm_H} {l0 : Nat} {h0 : xm_H} {r0 : Int32} {h1 : xm_H} {v2 : Nat} {v3 : Nat} {v4 : Nat} {v5 : Nat} {h6 : xm_H} {r6 : Int32} {h7 : xm_H} {r7 : Int32} (q0 : xm_V X P d 78 [.ref l0] h (some (.int r0)) h0) (q1 : X.1[l0]? = some (.inr 9)) (q2 : ¬ (r0 = (0 : Int32))) (q3 : xm_V X P d 101 [.ref l0] h0 none h1) (q4 : h1.2.2 l0 5 = some v2) (q5 : h1.2.2 l0 1 = some v3) (q6 : X.1[v3]? = some (.inr 8)) (q7 : h1.2.2 v3 0 = some v4) (q8 : X.1[v4]? = some (.inr 0)) (q9 : h1.2.2 v4 12 = some v5) (q10 : xm_V X P d 87 [.ref v2, .ref v5] h1 (some (.int r6)) h6) (q11 : X.1[v2]? = some (.inr 3)) (q12 : xm_V X P d 89 [.ref v2, .int r6] h6 (some (.int r7)) h7) : xm_E X P d co_X10_alone 0 [some (.ref l0)] [] h (some (.int r7)) h7 := by
  refine xm_E_s r_X10_alone_0 rfl rfl ?_
  refine xm_E_cv [.ref l0] [] r_X10_alone_1 rfl rfl (Nat.le_of_ble_eq_true rfl) (xm_rc q1 (by decide)) rfl q0 ?_
  refine xm_E_s r_X10_alone_2 rfl rfl ?_
  refine xm_E_f q2 ?_
  refine xm_E_s r_X10_alone_5 rfl rfl ?_
  refine xm_E_cv [.ref l0] [] r_X10_alone_6 rfl rfl (Nat.le_of_ble_eq_true rfl) (xm_rc q1 (by decide)) rfl q3 ?_
  refine xm_E_s r_X10_alone_7 rfl rfl ?_
  refine xm_E_s r_X10_alone_8 rfl (xm_T_gr rfl q1 rfl rfl q4) ?_
  refine xm_E_s r_X10_alone_9 rfl rfl ?_
  refine xm_E_s r_X10_alone_10 rfl (xm_T_gr rfl q1 rfl rfl q4) ?_
  refine xm_E_s r_X10_alone_11 rfl rfl ?_
  refine xm_E_s r_X10_alone_12 rfl (xm_T_gr rfl q1 rfl rfl q5) ?_
  refine xm_E_s r_X10_alone_13 rfl (xm_T_gr rfl q6 rfl rfl q7) ?_
  refine xm_E_s r_X10_alone_14 rfl (xm_T_gr rfl q8 rfl rfl q9) ?_
  refine xm_E_cv [.ref v2, .ref v5] [.ref v2] r_X10_alone_15 rfl rfl (Nat.le_of_ble_eq_true rfl) (xm_rc q11 (by decide)) rfl q10 ?_
  refine xm_E_cv [.ref v2, .int r6] [] r_X10_alone_16 rfl rfl (Nat.le_of_ble_eq_true rfl) (xm_rc q11 (by decide)) rfl q12 ?_
  exact xm_E_iret r_X10_alone_17 rfl rfl
theorem r_X10_exploreAlone_0 : co_X10_exploreAlone[0]? = some ((0, .aload_n 0, 0, 0, 0, 0, 0, 0, []) : xm_I) := rfl
theorem r_X10_exploreAlone_1 : co_X10_exploreAlone[1]? = some ((1, .getfield 43, 486, 9, 5, 2, 0, 0, []) : xm_I) := rfl
theorem r_X10_exploreAlone_2 : co_X10_exploreAlone[2]? = some ((4, .aload_n 0, 0, 0, 0, 0, 0, 0, []) : xm_I) := rfl
theorem r_X10_exploreAlone_3 : co_X10_exploreAlone[3]? = some ((5, .getfield 19, 482, 9, 1, 2, 0, 0, []) : xm_I) := rfl
theorem r_X10_exploreAlone_4 : co_X10_exploreAlone[4]? = some ((8, .getfield 116, 311, 8, 3, 0, 0, 0, []) : xm_I) := rfl
theorem r_X10_exploreAlone_5 : co_X10_exploreAlone[5]? = some ((11, .sipush 975, 0, 0, 0, 0, 975, 0, []) : xm_I) := rfl
theorem r_X10_exploreAlone_6 : co_X10_exploreAlone[6]? = some ((14, .bipush 60, 0, 0, 0, 0, 60, 0, []) : xm_I) := rfl
theorem r_X10_exploreAlone_7 : co_X10_exploreAlone[7]? = some ((16, .aload_n 0, 0, 0, 0, 0, 0, 0, []) : xm_I) := rfl
theorem r_X10_exploreAlone_8 : co_X10_exploreAlone[8]? = some ((17, .getfield 19, 482, 9, 1, 2, 0, 0, []) : xm_I) := rfl
theorem r_X10_exploreAlone_9 : co_X10_exploreAlone[9]? = some ((20, .getfield 103, 305, 8, 0, 2, 0, 0, []) : xm_I) := rfl
theorem r_X10_exploreAlone_10 : co_X10_exploreAlone[10]? = some ((23, .getfield 357, 223, 0, 5, 0, 0, 0, []) : xm_I) := rfl
theorem r_X10_exploreAlone_11 : co_X10_exploreAlone[11]? = some ((26, .invokevirtual 420, 885, 81, 5, 3, 0, 0, []) : xm_I) := rfl
theorem r_X10_exploreAlone_12 : co_X10_exploreAlone[12]? = some ((29, .return_, 0, 0, 0, 0, 0, 0, []) : xm_I) := rfl
theorem p_X10_exploreAlone_0_0 {X : xm_X} {P : List xm_M} {d : Nat} {h : xm_H} {l0 : Nat} {v0 : Nat} {v1 : Nat} {v2 : Nat} {h3 : xm_H} (q0 : X.1[l0]? = some (.inr 9)) (q1 : h.2.2 l0 5 = some v0) (q2 : h.2.2 l0 1 = some v1) (q3 : X.1[v1]? = some (.inr 8)) (q4 : h.2.2 v1 0 = some v2) (q5 : X.1[v2]? = some (.inr 0)) (q6 : xm_V X P d 81 [.ref v0, .int (h.1 v1 3), .int (975 : Int32), .int (60 : Int32), .int (h.1 v2 5)] h none h3) (q7 : X.1[v0]? = some (.inr 3)) : xm_E X P d co_X10_exploreAlone 0 [some (.ref l0)] [] h none h3 := by
  refine xm_E_s r_X10_exploreAlone_0 rfl rfl ?_
  refine xm_E_s r_X10_exploreAlone_1 rfl (xm_T_gr rfl q0 rfl rfl q1) ?_
  refine xm_E_s r_X10_exploreAlone_2 rfl rfl ?_
  refine xm_E_s r_X10_exploreAlone_3 rfl (xm_T_gr rfl q0 rfl rfl q2) ?_
  refine xm_E_s r_X10_exploreAlone_4 rfl (xm_T_gi rfl q3 rfl (Or.inl rfl)) ?_
  refine xm_E_s r_X10_exploreAlone_5 rfl rfl ?_
  refine xm_E_s r_X10_exploreAlone_6 rfl rfl ?_
  refine xm_E_s r_X10_exploreAlone_7 rfl rfl ?_
  refine xm_E_s r_X10_exploreAlone_8 rfl (xm_T_gr rfl q0 rfl rfl q2) ?_
  refine xm_E_s r_X10_exploreAlone_9 rfl (xm_T_gr rfl q3 rfl rfl q4) ?_
  refine xm_E_s r_X10_exploreAlone_10 rfl (xm_T_gi rfl q5 rfl (Or.inl rfl)) ?_
  refine xm_E_cv [.ref v0, .int (h.1 v1 3), .int (975 : Int32), .int (60 : Int32), .int (h.1 v2 5)] [] r_X10_exploreAlone_11 rfl rfl (Nat.le_of_ble_eq_true rfl) (xm_rc q7 (by decide)) rfl q6 ?_
  exact xm_E_ret r_X10_exploreAlone_12 rfl
theorem r_X10_rail_0 : co_X10_rail[0]? = some ((0, .aload_n 0, 0, 0, 0, 0, 0, 0, []) : xm_I) := rfl
theorem r_X10_rail_1 : co_X10_rail[1]? = some ((1, .invokevirtual 178, 873, 78, 1, 9, 0, 0, []) : xm_I) := rfl
theorem r_X10_rail_2 : co_X10_rail[2]? = some ((4, .ifCond .ne 6, 0, 0, 5, 0, 0, 0, []) : xm_I) := rfl
theorem r_X10_rail_3 : co_X10_rail[3]? = some ((7, .bipush (-2), 0, 0, 0, 0, (-2), 0, []) : xm_I) := rfl
theorem r_X10_rail_4 : co_X10_rail[4]? = some ((9, .ireturn, 0, 0, 0, 0, 0, 0, []) : xm_I) := rfl
theorem r_X10_rail_5 : co_X10_rail[5]? = some ((10, .aload_n 0, 0, 0, 0, 0, 0, 0, []) : xm_I) := rfl
theorem r_X10_rail_6 : co_X10_rail[6]? = some ((11, .invokevirtual 206, 982, 101, 1, 9, 0, 0, []) : xm_I) := rfl
theorem r_X10_rail_7 : co_X10_rail[7]? = some ((14, .aload_n 0, 0, 0, 0, 0, 0, 0, []) : xm_I) := rfl
theorem r_X10_rail_8 : co_X10_rail[8]? = some ((15, .getfield 43, 486, 9, 5, 2, 0, 0, []) : xm_I) := rfl
theorem r_X10_rail_9 : co_X10_rail[9]? = some ((18, .aload_n 0, 0, 0, 0, 0, 0, 0, []) : xm_I) := rfl
theorem r_X10_rail_10 : co_X10_rail[10]? = some ((19, .getfield 43, 486, 9, 5, 2, 0, 0, []) : xm_I) := rfl
theorem r_X10_rail_11 : co_X10_rail[11]? = some ((22, .aload_n 0, 0, 0, 0, 0, 0, 0, []) : xm_I) := rfl
theorem r_X10_rail_12 : co_X10_rail[12]? = some ((23, .getfield 19, 482, 9, 1, 2, 0, 0, []) : xm_I) := rfl
theorem r_X10_rail_13 : co_X10_rail[13]? = some ((26, .getfield 103, 305, 8, 0, 2, 0, 0, []) : xm_I) := rfl
theorem r_X10_rail_14 : co_X10_rail[14]? = some ((29, .getfield 187, 249, 0, 12, 2, 0, 0, []) : xm_I) := rfl
theorem r_X10_rail_15 : co_X10_rail[15]? = some ((32, .invokevirtual 191, 916, 87, 2, 3, 0, 0, []) : xm_I) := rfl
theorem r_X10_rail_16 : co_X10_rail[16]? = some ((35, .iload_n 1, 0, 0, 0, 0, 0, 0, []) : xm_I) := rfl
theorem r_X10_rail_17 : co_X10_rail[17]? = some ((36, .invokevirtual 195, 941, 92, 3, 3, 0, 0, []) : xm_I) := rfl
theorem r_X10_rail_18 : co_X10_rail[18]? = some ((39, .ireturn, 0, 0, 0, 0, 0, 0, []) : xm_I) := rfl
theorem p_X10_rail_0_0 {X : xm_X} {P : List xm_M} {d : Nat} {h : xm_H} {l0 : Nat} {l1 : Int32} {h0 : xm_H} {r0 : Int32} (q0 : xm_V X P d 78 [.ref l0] h (some (.int r0)) h0) (q1 : X.1[l0]? = some (.inr 9)) (q2 : r0 = (0 : Int32)) : xm_E X P d co_X10_rail 0 [some (.ref l0), some (.int l1)] [] h (some (.int (-2 : Int32))) h0 := by
  refine xm_E_s r_X10_rail_0 rfl rfl ?_
  refine xm_E_cv [.ref l0] [] r_X10_rail_1 rfl rfl (Nat.le_of_ble_eq_true rfl) (xm_rc q1 (by decide)) rfl q0 ?_
  refine xm_E_s r_X10_rail_2 rfl rfl ?_
  refine xm_E_t q2 ?_
  refine xm_E_s r_X10_rail_3 rfl rfl ?_
  exact xm_E_iret r_X10_rail_4 rfl rfl
theorem p_X10_rail_0_1 {X : xm_X} {P : List xm_M} {d : Nat} {h : xm_H} {l0 : Nat} {l1 : Int32} {h0 : xm_H} {r0 : Int32} {h1 : xm_H} {v2 : Nat} {v3 : Nat} {v4 : Nat} {v5 : Nat} {h6 : xm_H} {r6 : Int32} {h7 : xm_H} {r7 : Int32} (q0 : xm_V X P d 78 [.ref l0] h (some (.int r0)) h0) (q1 : X.1[l0]? = some (.inr 9)) (q2 : ¬ (r0 = (0 : Int32))) (q3 : xm_V X P d 101 [.ref l0] h0 none h1) (q4 : h1.2.2 l0 5 = some v2) (q5 : h1.2.2 l0 1 = some v3) (q6 : X.1[v3]? = some (.inr 8)) (q7 : h1.2.2 v3 0 = some v4) (q8 : X.1[v4]? = some (.inr 0)) (q9 : h1.2.2 v4 12 = some v5) (q10 : xm_V X P d 87 [.ref v2, .ref v5] h1 (some (.int r6)) h6) (q11 : X.1[v2]? = some (.inr 3)) (q12 : xm_V X P d 92 [.ref v2, .int r6, .int l1] h6 (some (.int r7)) h7) : xm_E X P d co_X10_rail 0 [some (.ref l0), some (.int l1)] [] h (some (.int r7)) h7 := by
  refine xm_E_s r_X10_rail_0 rfl rfl ?_
  refine xm_E_cv [.ref l0] [] r_X10_rail_1 rfl rfl (Nat.le_of_ble_eq_true rfl) (xm_rc q1 (by decide)) rfl q0 ?_
  refine xm_E_s r_X10_rail_2 rfl rfl ?_
  refine xm_E_f q2 ?_
  refine xm_E_s r_X10_rail_5 rfl rfl ?_
  refine xm_E_cv [.ref l0] [] r_X10_rail_6 rfl rfl (Nat.le_of_ble_eq_true rfl) (xm_rc q1 (by decide)) rfl q3 ?_
  refine xm_E_s r_X10_rail_7 rfl rfl ?_
  refine xm_E_s r_X10_rail_8 rfl (xm_T_gr rfl q1 rfl rfl q4) ?_
  refine xm_E_s r_X10_rail_9 rfl rfl ?_
  refine xm_E_s r_X10_rail_10 rfl (xm_T_gr rfl q1 rfl rfl q4) ?_
  refine xm_E_s r_X10_rail_11 rfl rfl ?_
  refine xm_E_s r_X10_rail_12 rfl (xm_T_gr rfl q1 rfl rfl q5) ?_
  refine xm_E_s r_X10_rail_13 rfl (xm_T_gr rfl q6 rfl rfl q7) ?_
  refine xm_E_s r_X10_rail_14 rfl (xm_T_gr rfl q8 rfl rfl q9) ?_
  refine xm_E_cv [.ref v2, .ref v5] [.ref v2] r_X10_rail_15 rfl rfl (Nat.le_of_ble_eq_true rfl) (xm_rc q11 (by decide)) rfl q10 ?_
  refine xm_E_s r_X10_rail_16 rfl rfl ?_
  refine xm_E_cv [.ref v2, .int r6, .int l1] [] r_X10_rail_17 rfl rfl (Nat.le_of_ble_eq_true rfl) (xm_rc q11 (by decide)) rfl q12 ?_
  exact xm_E_iret r_X10_rail_18 rfl rfl
theorem r_X10_brief_0 : co_X10_brief[0]? = some ((0, .aload_n 0, 0, 0, 0, 0, 0, 0, []) : xm_I) := rfl
theorem r_X10_brief_1 : co_X10_brief[1]? = some ((1, .invokevirtual 178, 873, 78, 1, 9, 0, 0, []) : xm_I) := rfl
theorem r_X10_brief_2 : co_X10_brief[2]? = some ((4, .ifCond .eq 14, 0, 0, 9, 0, 0, 0, []) : xm_I) := rfl
theorem r_X10_brief_3 : co_X10_brief[3]? = some ((7, .iload_n 1, 0, 0, 0, 0, 0, 0, []) : xm_I) := rfl
theorem r_X10_brief_4 : co_X10_brief[4]? = some ((8, .iconst 1, 0, 0, 0, 0, 1, 0, []) : xm_I) := rfl
theorem r_X10_brief_5 : co_X10_brief[5]? = some ((9, .if_icmp .lt 9, 0, 0, 9, 0, 0, 0, []) : xm_I) := rfl
theorem r_X10_brief_6 : co_X10_brief[6]? = some ((12, .iload_n 1, 0, 0, 0, 0, 0, 0, []) : xm_I) := rfl
theorem r_X10_brief_7 : co_X10_brief[7]? = some ((13, .bipush 60, 0, 0, 0, 0, 60, 0, []) : xm_I) := rfl
theorem r_X10_brief_8 : co_X10_brief[8]? = some ((15, .if_icmp .le 6, 0, 0, 11, 0, 0, 0, []) : xm_I) := rfl
theorem r_X10_brief_9 : co_X10_brief[9]? = some ((18, .bipush (-2), 0, 0, 0, 0, (-2), 0, []) : xm_I) := rfl
theorem r_X10_brief_10 : co_X10_brief[10]? = some ((20, .ireturn, 0, 0, 0, 0, 0, 0, []) : xm_I) := rfl
theorem r_X10_brief_11 : co_X10_brief[11]? = some ((21, .aload_n 0, 0, 0, 0, 0, 0, 0, []) : xm_I) := rfl
theorem r_X10_brief_12 : co_X10_brief[12]? = some ((22, .iload_n 1, 0, 0, 0, 0, 0, 0, []) : xm_I) := rfl
theorem r_X10_brief_13 : co_X10_brief[13]? = some ((23, .invokevirtual 181, 881, 80, 2, 9, 0, 0, []) : xm_I) := rfl
theorem r_X10_brief_14 : co_X10_brief[14]? = some ((26, .ireturn, 0, 0, 0, 0, 0, 0, []) : xm_I) := rfl
theorem p_X10_brief_0_0 {X : xm_X} {P : List xm_M} {d : Nat} {h : xm_H} {l0 : Nat} {l1 : Int32} {h0 : xm_H} {r0 : Int32} (q0 : xm_V X P d 78 [.ref l0] h (some (.int r0)) h0) (q1 : X.1[l0]? = some (.inr 9)) (q2 : r0 = (0 : Int32)) : xm_E X P d co_X10_brief 0 [some (.ref l0), some (.int l1)] [] h (some (.int (-2 : Int32))) h0 := by
  refine xm_E_s r_X10_brief_0 rfl rfl ?_
  refine xm_E_cv [.ref l0] [] r_X10_brief_1 rfl rfl (Nat.le_of_ble_eq_true rfl) (xm_rc q1 (by decide)) rfl q0 ?_
  refine xm_E_s r_X10_brief_2 rfl rfl ?_
  refine xm_E_t q2 ?_
  refine xm_E_s r_X10_brief_9 rfl rfl ?_
  exact xm_E_iret r_X10_brief_10 rfl rfl
theorem p_X10_brief_0_1 {X : xm_X} {P : List xm_M} {d : Nat} {h : xm_H} {l0 : Nat} {l1 : Int32} {h0 : xm_H} {r0 : Int32} (q0 : xm_V X P d 78 [.ref l0] h (some (.int r0)) h0) (q1 : X.1[l0]? = some (.inr 9)) (q2 : ¬ (r0 = (0 : Int32))) (q3 : l1 < (1 : Int32)) : xm_E X P d co_X10_brief 0 [some (.ref l0), some (.int l1)] [] h (some (.int (-2 : Int32))) h0 := by
  refine xm_E_s r_X10_brief_0 rfl rfl ?_
  refine xm_E_cv [.ref l0] [] r_X10_brief_1 rfl rfl (Nat.le_of_ble_eq_true rfl) (xm_rc q1 (by decide)) rfl q0 ?_
  refine xm_E_s r_X10_brief_2 rfl rfl ?_
  refine xm_E_f q2 ?_
  refine xm_E_s r_X10_brief_3 rfl rfl ?_
  refine xm_E_s r_X10_brief_4 rfl rfl ?_
  refine xm_E_s r_X10_brief_5 rfl rfl ?_
  refine xm_E_t q3 ?_
  refine xm_E_s r_X10_brief_9 rfl rfl ?_
  exact xm_E_iret r_X10_brief_10 rfl rfl
theorem p_X10_brief_0_2 {X : xm_X} {P : List xm_M} {d : Nat} {h : xm_H} {l0 : Nat} {l1 : Int32} {h0 : xm_H} {r0 : Int32} {h1 : xm_H} {r1 : Int32} (q0 : xm_V X P d 78 [.ref l0] h (some (.int r0)) h0) (q1 : X.1[l0]? = some (.inr 9)) (q2 : ¬ (r0 = (0 : Int32))) (q3 : ¬ (l1 < (1 : Int32))) (q4 : l1 ≤ (60 : Int32)) (q5 : xm_V X P d 80 [.ref l0, .int l1] h0 (some (.int r1)) h1) : xm_E X P d co_X10_brief 0 [some (.ref l0), some (.int l1)] [] h (some (.int r1)) h1 := by
  refine xm_E_s r_X10_brief_0 rfl rfl ?_
  refine xm_E_cv [.ref l0] [] r_X10_brief_1 rfl rfl (Nat.le_of_ble_eq_true rfl) (xm_rc q1 (by decide)) rfl q0 ?_
  refine xm_E_s r_X10_brief_2 rfl rfl ?_
  refine xm_E_f q2 ?_
  refine xm_E_s r_X10_brief_3 rfl rfl ?_
  refine xm_E_s r_X10_brief_4 rfl rfl ?_
  refine xm_E_s r_X10_brief_5 rfl rfl ?_
  refine xm_E_f q3 ?_
  refine xm_E_s r_X10_brief_6 rfl rfl ?_
  refine xm_E_s r_X10_brief_7 rfl rfl ?_
  refine xm_E_s r_X10_brief_8 rfl rfl ?_
  refine xm_E_t q4 ?_
  refine xm_E_s r_X10_brief_11 rfl rfl ?_
  refine xm_E_s r_X10_brief_12 rfl rfl ?_
  refine xm_E_cv [.ref l0, .int l1] [] r_X10_brief_13 rfl rfl (Nat.le_of_ble_eq_true rfl) (xm_rc q1 (by decide)) rfl q5 ?_
  exact xm_E_iret r_X10_brief_14 rfl rfl
theorem p_X10_brief_0_3 {X : xm_X} {P : List xm_M} {d : Nat} {h : xm_H} {l0 : Nat} {l1 : Int32} {h0 : xm_H} {r0 : Int32} (q0 : xm_V X P d 78 [.ref l0] h (some (.int r0)) h0) (q1 : X.1[l0]? = some (.inr 9)) (q2 : ¬ (r0 = (0 : Int32))) (q3 : ¬ (l1 < (1 : Int32))) (q4 : ¬ (l1 ≤ (60 : Int32))) : xm_E X P d co_X10_brief 0 [some (.ref l0), some (.int l1)] [] h (some (.int (-2 : Int32))) h0 := by
  refine xm_E_s r_X10_brief_0 rfl rfl ?_
  refine xm_E_cv [.ref l0] [] r_X10_brief_1 rfl rfl (Nat.le_of_ble_eq_true rfl) (xm_rc q1 (by decide)) rfl q0 ?_
  refine xm_E_s r_X10_brief_2 rfl rfl ?_
  refine xm_E_f q2 ?_
  refine xm_E_s r_X10_brief_3 rfl rfl ?_
  refine xm_E_s r_X10_brief_4 rfl rfl ?_
  refine xm_E_s r_X10_brief_5 rfl rfl ?_
  refine xm_E_f q3 ?_
  refine xm_E_s r_X10_brief_6 rfl rfl ?_
  refine xm_E_s r_X10_brief_7 rfl rfl ?_
  refine xm_E_s r_X10_brief_8 rfl rfl ?_
  refine xm_E_f q4 ?_
  refine xm_E_s r_X10_brief_9 rfl rfl ?_
  exact xm_E_iret r_X10_brief_10 rfl rfl
theorem r_X10_room_0 : co_X10_room[0]? = some ((0, .aload_n 0, 0, 0, 0, 0, 0, 0, []) : xm_I) := rfl
theorem r_X10_room_1 : co_X10_room[1]? = some ((1, .invokevirtual 178, 873, 78, 1, 9, 0, 0, []) : xm_I) := rfl
theorem r_X10_room_2 : co_X10_room[2]? = some ((4, .ifCond .ne 6, 0, 0, 5, 0, 0, 0, []) : xm_I) := rfl
theorem r_X10_room_3 : co_X10_room[3]? = some ((7, .bipush (-2), 0, 0, 0, 0, (-2), 0, []) : xm_I) := rfl
theorem r_X10_room_4 : co_X10_room[4]? = some ((9, .ireturn, 0, 0, 0, 0, 0, 0, []) : xm_I) := rfl
theorem r_X10_room_5 : co_X10_room[5]? = some ((10, .aload_n 0, 0, 0, 0, 0, 0, 0, []) : xm_I) := rfl
theorem r_X10_room_6 : co_X10_room[6]? = some ((11, .bipush 60, 0, 0, 0, 0, 60, 0, []) : xm_I) := rfl
theorem r_X10_room_7 : co_X10_room[7]? = some ((13, .invokevirtual 181, 881, 80, 2, 9, 0, 0, []) : xm_I) := rfl
theorem r_X10_room_8 : co_X10_room[8]? = some ((16, .iconst (-1), 0, 0, 0, 0, (-1), 0, []) : xm_I) := rfl
theorem r_X10_room_9 : co_X10_room[9]? = some ((17, .if_icmp .ne 7, 0, 0, 12, 0, 0, 0, []) : xm_I) := rfl
theorem r_X10_room_10 : co_X10_room[10]? = some ((20, .iconst (-1), 0, 0, 0, 0, (-1), 0, []) : xm_I) := rfl
theorem r_X10_room_11 : co_X10_room[11]? = some ((21, .goto 9, 0, 0, 15, 0, 0, 0, []) : xm_I) := rfl
theorem r_X10_room_12 : co_X10_room[12]? = some ((24, .aload_n 0, 0, 0, 0, 0, 0, 0, []) : xm_I) := rfl
theorem r_X10_room_13 : co_X10_room[13]? = some ((25, .ldc 212, 998, 0, 0, 0, 2147483647, 0, []) : xm_I) := rfl
theorem r_X10_room_14 : co_X10_room[14]? = some ((27, .invokevirtual 213, 999, 105, 2, 9, 0, 0, []) : xm_I) := rfl
theorem r_X10_room_15 : co_X10_room[15]? = some ((30, .ireturn, 0, 0, 0, 0, 0, 0, []) : xm_I) := rfl
theorem p_X10_room_0_0 {X : xm_X} {P : List xm_M} {d : Nat} {h : xm_H} {l0 : Nat} {h0 : xm_H} {r0 : Int32} (q0 : xm_V X P d 78 [.ref l0] h (some (.int r0)) h0) (q1 : X.1[l0]? = some (.inr 9)) (q2 : r0 = (0 : Int32)) : xm_E X P d co_X10_room 0 [some (.ref l0)] [] h (some (.int (-2 : Int32))) h0 := by
  refine xm_E_s r_X10_room_0 rfl rfl ?_
  refine xm_E_cv [.ref l0] [] r_X10_room_1 rfl rfl (Nat.le_of_ble_eq_true rfl) (xm_rc q1 (by decide)) rfl q0 ?_
  refine xm_E_s r_X10_room_2 rfl rfl ?_
  refine xm_E_t q2 ?_
  refine xm_E_s r_X10_room_3 rfl rfl ?_
  exact xm_E_iret r_X10_room_4 rfl rfl
theorem p_X10_room_0_1 {X : xm_X} {P : List xm_M} {d : Nat} {h : xm_H} {l0 : Nat} {h0 : xm_H} {r0 : Int32} {h1 : xm_H} {r1 : Int32} (q0 : xm_V X P d 78 [.ref l0] h (some (.int r0)) h0) (q1 : X.1[l0]? = some (.inr 9)) (q2 : ¬ (r0 = (0 : Int32))) (q3 : xm_V X P d 80 [.ref l0, .int (60 : Int32)] h0 (some (.int r1)) h1) (q4 : r1 = (-1 : Int32)) : xm_E X P d co_X10_room 0 [some (.ref l0)] [] h (some (.int (-1 : Int32))) h1 := by
  refine xm_E_s r_X10_room_0 rfl rfl ?_
  refine xm_E_cv [.ref l0] [] r_X10_room_1 rfl rfl (Nat.le_of_ble_eq_true rfl) (xm_rc q1 (by decide)) rfl q0 ?_
  refine xm_E_s r_X10_room_2 rfl rfl ?_
  refine xm_E_f q2 ?_
  refine xm_E_s r_X10_room_5 rfl rfl ?_
  refine xm_E_s r_X10_room_6 rfl rfl ?_
  refine xm_E_cv [.ref l0, .int (60 : Int32)] [] r_X10_room_7 rfl rfl (Nat.le_of_ble_eq_true rfl) (xm_rc q1 (by decide)) rfl q3 ?_
  refine xm_E_s r_X10_room_8 rfl rfl ?_
  refine xm_E_s r_X10_room_9 rfl rfl ?_
  refine xm_E_t q4 ?_
  refine xm_E_s r_X10_room_10 rfl rfl ?_
  refine xm_E_s r_X10_room_11 rfl rfl ?_
  exact xm_E_iret r_X10_room_15 rfl rfl
theorem p_X10_room_0_2 {X : xm_X} {P : List xm_M} {d : Nat} {h : xm_H} {l0 : Nat} {h0 : xm_H} {r0 : Int32} {h1 : xm_H} {r1 : Int32} {h2 : xm_H} {r2 : Int32} (q0 : xm_V X P d 78 [.ref l0] h (some (.int r0)) h0) (q1 : X.1[l0]? = some (.inr 9)) (q2 : ¬ (r0 = (0 : Int32))) (q3 : xm_V X P d 80 [.ref l0, .int (60 : Int32)] h0 (some (.int r1)) h1) (q4 : ¬ (r1 = (-1 : Int32))) (q5 : xm_V X P d 105 [.ref l0, .int (2147483647 : Int32)] h1 (some (.int r2)) h2) : xm_E X P d co_X10_room 0 [some (.ref l0)] [] h (some (.int r2)) h2 := by
  refine xm_E_s r_X10_room_0 rfl rfl ?_
  refine xm_E_cv [.ref l0] [] r_X10_room_1 rfl rfl (Nat.le_of_ble_eq_true rfl) (xm_rc q1 (by decide)) rfl q0 ?_
  refine xm_E_s r_X10_room_2 rfl rfl ?_
  refine xm_E_f q2 ?_
  refine xm_E_s r_X10_room_5 rfl rfl ?_
  refine xm_E_s r_X10_room_6 rfl rfl ?_
  refine xm_E_cv [.ref l0, .int (60 : Int32)] [] r_X10_room_7 rfl rfl (Nat.le_of_ble_eq_true rfl) (xm_rc q1 (by decide)) rfl q3 ?_
  refine xm_E_s r_X10_room_8 rfl rfl ?_
  refine xm_E_s r_X10_room_9 rfl rfl ?_
  refine xm_E_f q4 ?_
  refine xm_E_s r_X10_room_12 rfl rfl ?_
  refine xm_E_s r_X10_room_13 rfl rfl ?_
  refine xm_E_cv [.ref l0, .int (2147483647 : Int32)] [] r_X10_room_14 rfl rfl (Nat.le_of_ble_eq_true rfl) (xm_rc q1 (by decide)) rfl q5 ?_
  exact xm_E_iret r_X10_room_15 rfl rfl
theorem r_X10_leastRoomFor_0 : co_X10_leastRoomFor[0]? = some ((0, .iconst 0, 0, 0, 0, 0, 0, 0, []) : xm_I) := rfl
theorem r_X10_leastRoomFor_1 : co_X10_leastRoomFor[1]? = some ((1, .istore_n 2, 0, 0, 0, 0, 0, 0, []) : xm_I) := rfl
theorem r_X10_leastRoomFor_2 : co_X10_leastRoomFor[2]? = some ((2, .bipush 32, 0, 0, 0, 0, 32, 0, []) : xm_I) := rfl
theorem r_X10_leastRoomFor_3 : co_X10_leastRoomFor[3]? = some ((4, .istore_n 3, 0, 0, 0, 0, 0, 0, []) : xm_I) := rfl
theorem r_X10_leastRoomFor_4 : co_X10_leastRoomFor[4]? = some ((5, .iload_n 3, 0, 0, 0, 0, 0, 0, []) : xm_I) := rfl
theorem r_X10_leastRoomFor_5 : co_X10_leastRoomFor[5]? = some ((6, .ifCond .le 45, 0, 0, 30, 0, 0, 0, []) : xm_I) := rfl
theorem r_X10_leastRoomFor_6 : co_X10_leastRoomFor[6]? = some ((9, .iload_n 2, 0, 0, 0, 0, 0, 0, []) : xm_I) := rfl
theorem r_X10_leastRoomFor_7 : co_X10_leastRoomFor[7]? = some ((10, .iload_n 3, 0, 0, 0, 0, 0, 0, []) : xm_I) := rfl
theorem r_X10_leastRoomFor_8 : co_X10_leastRoomFor[8]? = some ((11, .iadd, 0, 0, 0, 0, 0, 0, []) : xm_I) := rfl
theorem r_X10_leastRoomFor_9 : co_X10_leastRoomFor[9]? = some ((12, .istore 4, 0, 0, 0, 0, 0, 0, []) : xm_I) := rfl
theorem r_X10_leastRoomFor_10 : co_X10_leastRoomFor[10]? = some ((14, .iload 4, 0, 0, 0, 0, 0, 0, []) : xm_I) := rfl
theorem r_X10_leastRoomFor_11 : co_X10_leastRoomFor[11]? = some ((16, .bipush 60, 0, 0, 0, 0, 60, 0, []) : xm_I) := rfl
theorem r_X10_leastRoomFor_12 : co_X10_leastRoomFor[12]? = some ((18, .if_icmp .gt 26, 0, 0, 25, 0, 0, 0, []) : xm_I) := rfl
theorem r_X10_leastRoomFor_13 : co_X10_leastRoomFor[13]? = some ((21, .aload_n 0, 0, 0, 0, 0, 0, 0, []) : xm_I) := rfl
theorem r_X10_leastRoomFor_14 : co_X10_leastRoomFor[14]? = some ((22, .iload 4, 0, 0, 0, 0, 0, 0, []) : xm_I) := rfl
theorem r_X10_leastRoomFor_15 : co_X10_leastRoomFor[15]? = some ((24, .invokevirtual 181, 881, 80, 2, 9, 0, 0, []) : xm_I) := rfl
theorem r_X10_leastRoomFor_16 : co_X10_leastRoomFor[16]? = some ((27, .istore 5, 0, 0, 0, 0, 0, 0, []) : xm_I) := rfl
theorem r_X10_leastRoomFor_17 : co_X10_leastRoomFor[17]? = some ((29, .iload 5, 0, 0, 0, 0, 0, 0, []) : xm_I) := rfl
theorem r_X10_leastRoomFor_18 : co_X10_leastRoomFor[18]? = some ((31, .iconst (-1), 0, 0, 0, 0, (-1), 0, []) : xm_I) := rfl
theorem r_X10_leastRoomFor_19 : co_X10_leastRoomFor[19]? = some ((32, .if_icmp .eq 9, 0, 0, 23, 0, 0, 0, []) : xm_I) := rfl
theorem r_X10_leastRoomFor_20 : co_X10_leastRoomFor[20]? = some ((35, .iload 5, 0, 0, 0, 0, 0, 0, []) : xm_I) := rfl
theorem r_X10_leastRoomFor_21 : co_X10_leastRoomFor[21]? = some ((37, .iload_n 1, 0, 0, 0, 0, 0, 0, []) : xm_I) := rfl
theorem r_X10_leastRoomFor_22 : co_X10_leastRoomFor[22]? = some ((38, .if_icmp .le 6, 0, 0, 25, 0, 0, 0, []) : xm_I) := rfl
theorem r_X10_leastRoomFor_23 : co_X10_leastRoomFor[23]? = some ((41, .iload 4, 0, 0, 0, 0, 0, 0, []) : xm_I) := rfl
theorem r_X10_leastRoomFor_24 : co_X10_leastRoomFor[24]? = some ((43, .istore_n 2, 0, 0, 0, 0, 0, 0, []) : xm_I) := rfl
theorem r_X10_leastRoomFor_25 : co_X10_leastRoomFor[25]? = some ((44, .iload_n 3, 0, 0, 0, 0, 0, 0, []) : xm_I) := rfl
theorem r_X10_leastRoomFor_26 : co_X10_leastRoomFor[26]? = some ((45, .iconst 2, 0, 0, 0, 0, 2, 0, []) : xm_I) := rfl
theorem r_X10_leastRoomFor_27 : co_X10_leastRoomFor[27]? = some ((46, .idiv, 0, 0, 0, 0, 0, 0, []) : xm_I) := rfl
theorem r_X10_leastRoomFor_28 : co_X10_leastRoomFor[28]? = some ((47, .istore_n 3, 0, 0, 0, 0, 0, 0, []) : xm_I) := rfl
theorem r_X10_leastRoomFor_29 : co_X10_leastRoomFor[29]? = some ((48, .goto (-43), 0, 0, 4, 0, 0, 0, []) : xm_I) := rfl
theorem r_X10_leastRoomFor_30 : co_X10_leastRoomFor[30]? = some ((51, .iload_n 2, 0, 0, 0, 0, 0, 0, []) : xm_I) := rfl
theorem r_X10_leastRoomFor_31 : co_X10_leastRoomFor[31]? = some ((52, .iconst 1, 0, 0, 0, 0, 1, 0, []) : xm_I) := rfl
theorem r_X10_leastRoomFor_32 : co_X10_leastRoomFor[32]? = some ((53, .iadd, 0, 0, 0, 0, 0, 0, []) : xm_I) := rfl
theorem r_X10_leastRoomFor_33 : co_X10_leastRoomFor[33]? = some ((54, .ireturn, 0, 0, 0, 0, 0, 0, []) : xm_I) := rfl
theorem p_X10_leastRoomFor_0_0 {X : xm_X} {P : List xm_M} {d : Nat} {h : xm_H} {l0 : Nat} {l1 : Int32} {ro : Option Value} {ho : xm_H}  (K : xm_E X P d co_X10_leastRoomFor 4 [some (.ref l0), some (.int l1), some (.int (0 : Int32)), some (.int (32 : Int32)), none, none] [] h ro ho) : xm_E X P d co_X10_leastRoomFor 0 [some (.ref l0), some (.int l1), none, none, none, none] [] h ro ho := by
  refine xm_E_s r_X10_leastRoomFor_0 rfl rfl ?_
  refine xm_E_s (ls1 := [some (.ref l0), some (.int l1), some (.int (0 : Int32)), none, none, none]) r_X10_leastRoomFor_1 rfl rfl ?_
  refine xm_E_s r_X10_leastRoomFor_2 rfl rfl ?_
  refine xm_E_s (ls1 := [some (.ref l0), some (.int l1), some (.int (0 : Int32)), some (.int (32 : Int32)), none, none]) r_X10_leastRoomFor_3 rfl rfl ?_
  exact K
theorem p_X10_leastRoomFor_4_0 {X : xm_X} {P : List xm_M} {d : Nat} {h : xm_H} {l0 : Nat} {l1 : Int32} {l2 : Int32} {l3 : Int32} {l4 : Option Value} {l5 : Option Value} (q0 : l3 ≤ (0 : Int32)) : xm_E X P d co_X10_leastRoomFor 4 [some (.ref l0), some (.int l1), some (.int l2), some (.int l3), l4, l5] [] h (some (.int (l2 + (1 : Int32)))) h := by
  refine xm_E_s r_X10_leastRoomFor_4 rfl rfl ?_
  refine xm_E_s r_X10_leastRoomFor_5 rfl rfl ?_
  refine xm_E_t q0 ?_
  refine xm_E_s r_X10_leastRoomFor_30 rfl rfl ?_
  refine xm_E_s r_X10_leastRoomFor_31 rfl rfl ?_
  refine xm_E_s r_X10_leastRoomFor_32 rfl rfl ?_
  exact xm_E_iret r_X10_leastRoomFor_33 rfl rfl
theorem p_X10_leastRoomFor_4_1 {X : xm_X} {P : List xm_M} {d : Nat} {h : xm_H} {l0 : Nat} {l1 : Int32} {l2 : Int32} {l3 : Int32} {l4 : Option Value} {l5 : Option Value} {ro : Option Value} {ho : xm_H} (q0 : ¬ (l3 ≤ (0 : Int32))) (q1 : (60 : Int32) < l2 + l3) (K : xm_E X P d co_X10_leastRoomFor 4 [some (.ref l0), some (.int l1), some (.int l2), some (.int (l3 / (2 : Int32))), some (.int (l2 + l3)), l5] [] h ro ho) : xm_E X P d co_X10_leastRoomFor 4 [some (.ref l0), some (.int l1), some (.int l2), some (.int l3), l4, l5] [] h ro ho := by
  refine xm_E_s r_X10_leastRoomFor_4 rfl rfl ?_
  refine xm_E_s r_X10_leastRoomFor_5 rfl rfl ?_
  refine xm_E_f q0 ?_
  refine xm_E_s r_X10_leastRoomFor_6 rfl rfl ?_
  refine xm_E_s r_X10_leastRoomFor_7 rfl rfl ?_
  refine xm_E_s r_X10_leastRoomFor_8 rfl rfl ?_
  refine xm_E_s (ls1 := [some (.ref l0), some (.int l1), some (.int l2), some (.int l3), some (.int (l2 + l3)), l5]) r_X10_leastRoomFor_9 rfl rfl ?_
  refine xm_E_s r_X10_leastRoomFor_10 rfl rfl ?_
  refine xm_E_s r_X10_leastRoomFor_11 rfl rfl ?_
  refine xm_E_s r_X10_leastRoomFor_12 rfl rfl ?_
  refine xm_E_t q1 ?_
  refine xm_E_s r_X10_leastRoomFor_25 rfl rfl ?_
  refine xm_E_s r_X10_leastRoomFor_26 rfl rfl ?_
  refine xm_E_s r_X10_leastRoomFor_27 rfl (xm_T_idiv rfl (by decide)) ?_
  refine xm_E_s (ls1 := [some (.ref l0), some (.int l1), some (.int l2), some (.int (l3 / (2 : Int32))), some (.int (l2 + l3)), l5]) r_X10_leastRoomFor_28 rfl rfl ?_
  refine xm_E_s r_X10_leastRoomFor_29 rfl rfl ?_
  exact K
theorem p_X10_leastRoomFor_4_2 {X : xm_X} {P : List xm_M} {d : Nat} {h : xm_H} {l0 : Nat} {l1 : Int32} {l2 : Int32} {l3 : Int32} {l4 : Option Value} {l5 : Option Value} {h0 : xm_H} {r0 : Int32} {ro : Option Value} {ho : xm_H} (q0 : ¬ (l3 ≤ (0 : Int32))) (q1 : ¬ ((60 : Int32) < l2 + l3)) (q2 : xm_V X P d 80 [.ref l0, .int (l2 + l3)] h (some (.int r0)) h0) (q3 : X.1[l0]? = some (.inr 9)) (q4 : r0 = (-1 : Int32)) (K : xm_E X P d co_X10_leastRoomFor 4 [some (.ref l0), some (.int l1), some (.int (l2 + l3)), some (.int (l3 / (2 : Int32))), some (.int (l2 + l3)), some (.int r0)] [] h0 ro ho) : xm_E X P d co_X10_leastRoomFor 4 [some (.ref l0), some (.int l1), some (.int l2), some (.int l3), l4, l5] [] h ro ho := by
  refine xm_E_s r_X10_leastRoomFor_4 rfl rfl ?_
  refine xm_E_s r_X10_leastRoomFor_5 rfl rfl ?_
  refine xm_E_f q0 ?_
  refine xm_E_s r_X10_leastRoomFor_6 rfl rfl ?_
  refine xm_E_s r_X10_leastRoomFor_7 rfl rfl ?_
  refine xm_E_s r_X10_leastRoomFor_8 rfl rfl ?_
  refine xm_E_s (ls1 := [some (.ref l0), some (.int l1), some (.int l2), some (.int l3), some (.int (l2 + l3)), l5]) r_X10_leastRoomFor_9 rfl rfl ?_
  refine xm_E_s r_X10_leastRoomFor_10 rfl rfl ?_
  refine xm_E_s r_X10_leastRoomFor_11 rfl rfl ?_
  refine xm_E_s r_X10_leastRoomFor_12 rfl rfl ?_
  refine xm_E_f q1 ?_
  refine xm_E_s r_X10_leastRoomFor_13 rfl rfl ?_
  refine xm_E_s r_X10_leastRoomFor_14 rfl rfl ?_
  refine xm_E_cv [.ref l0, .int (l2 + l3)] [] r_X10_leastRoomFor_15 rfl rfl (Nat.le_of_ble_eq_true rfl) (xm_rc q3 (by decide)) rfl q2 ?_
  refine xm_E_s (ls1 := [some (.ref l0), some (.int l1), some (.int l2), some (.int l3), some (.int (l2 + l3)), some (.int r0)]) r_X10_leastRoomFor_16 rfl rfl ?_
  refine xm_E_s r_X10_leastRoomFor_17 rfl rfl ?_
  refine xm_E_s r_X10_leastRoomFor_18 rfl rfl ?_
  refine xm_E_s r_X10_leastRoomFor_19 rfl rfl ?_
  refine xm_E_t q4 ?_
  refine xm_E_s r_X10_leastRoomFor_23 rfl rfl ?_
  refine xm_E_s (ls1 := [some (.ref l0), some (.int l1), some (.int (l2 + l3)), some (.int l3), some (.int (l2 + l3)), some (.int r0)]) r_X10_leastRoomFor_24 rfl rfl ?_
  refine xm_E_s r_X10_leastRoomFor_25 rfl rfl ?_
  refine xm_E_s r_X10_leastRoomFor_26 rfl rfl ?_
  refine xm_E_s r_X10_leastRoomFor_27 rfl (xm_T_idiv rfl (by decide)) ?_
  refine xm_E_s (ls1 := [some (.ref l0), some (.int l1), some (.int (l2 + l3)), some (.int (l3 / (2 : Int32))), some (.int (l2 + l3)), some (.int r0)]) r_X10_leastRoomFor_28 rfl rfl ?_
  refine xm_E_s r_X10_leastRoomFor_29 rfl rfl ?_
  exact K
theorem p_X10_leastRoomFor_4_3 {X : xm_X} {P : List xm_M} {d : Nat} {h : xm_H} {l0 : Nat} {l1 : Int32} {l2 : Int32} {l3 : Int32} {l4 : Option Value} {l5 : Option Value} {h0 : xm_H} {r0 : Int32} {ro : Option Value} {ho : xm_H} (q0 : ¬ (l3 ≤ (0 : Int32))) (q1 : ¬ ((60 : Int32) < l2 + l3)) (q2 : xm_V X P d 80 [.ref l0, .int (l2 + l3)] h (some (.int r0)) h0) (q3 : X.1[l0]? = some (.inr 9)) (q4 : ¬ (r0 = (-1 : Int32))) (q5 : r0 ≤ l1) (K : xm_E X P d co_X10_leastRoomFor 4 [some (.ref l0), some (.int l1), some (.int l2), some (.int (l3 / (2 : Int32))), some (.int (l2 + l3)), some (.int r0)] [] h0 ro ho) : xm_E X P d co_X10_leastRoomFor 4 [some (.ref l0), some (.int l1), some (.int l2), some (.int l3), l4, l5] [] h ro ho := by
  refine xm_E_s r_X10_leastRoomFor_4 rfl rfl ?_
  refine xm_E_s r_X10_leastRoomFor_5 rfl rfl ?_
  refine xm_E_f q0 ?_
  refine xm_E_s r_X10_leastRoomFor_6 rfl rfl ?_
  refine xm_E_s r_X10_leastRoomFor_7 rfl rfl ?_
  refine xm_E_s r_X10_leastRoomFor_8 rfl rfl ?_
  refine xm_E_s (ls1 := [some (.ref l0), some (.int l1), some (.int l2), some (.int l3), some (.int (l2 + l3)), l5]) r_X10_leastRoomFor_9 rfl rfl ?_
  refine xm_E_s r_X10_leastRoomFor_10 rfl rfl ?_
  refine xm_E_s r_X10_leastRoomFor_11 rfl rfl ?_
  refine xm_E_s r_X10_leastRoomFor_12 rfl rfl ?_
  refine xm_E_f q1 ?_
  refine xm_E_s r_X10_leastRoomFor_13 rfl rfl ?_
  refine xm_E_s r_X10_leastRoomFor_14 rfl rfl ?_
  refine xm_E_cv [.ref l0, .int (l2 + l3)] [] r_X10_leastRoomFor_15 rfl rfl (Nat.le_of_ble_eq_true rfl) (xm_rc q3 (by decide)) rfl q2 ?_
  refine xm_E_s (ls1 := [some (.ref l0), some (.int l1), some (.int l2), some (.int l3), some (.int (l2 + l3)), some (.int r0)]) r_X10_leastRoomFor_16 rfl rfl ?_
  refine xm_E_s r_X10_leastRoomFor_17 rfl rfl ?_
  refine xm_E_s r_X10_leastRoomFor_18 rfl rfl ?_
  refine xm_E_s r_X10_leastRoomFor_19 rfl rfl ?_
  refine xm_E_f q4 ?_
  refine xm_E_s r_X10_leastRoomFor_20 rfl rfl ?_
  refine xm_E_s r_X10_leastRoomFor_21 rfl rfl ?_
  refine xm_E_s r_X10_leastRoomFor_22 rfl rfl ?_
  refine xm_E_t q5 ?_
  refine xm_E_s r_X10_leastRoomFor_25 rfl rfl ?_
  refine xm_E_s r_X10_leastRoomFor_26 rfl rfl ?_
  refine xm_E_s r_X10_leastRoomFor_27 rfl (xm_T_idiv rfl (by decide)) ?_
  refine xm_E_s (ls1 := [some (.ref l0), some (.int l1), some (.int l2), some (.int (l3 / (2 : Int32))), some (.int (l2 + l3)), some (.int r0)]) r_X10_leastRoomFor_28 rfl rfl ?_
  refine xm_E_s r_X10_leastRoomFor_29 rfl rfl ?_
  exact K
theorem p_X10_leastRoomFor_4_4 {X : xm_X} {P : List xm_M} {d : Nat} {h : xm_H} {l0 : Nat} {l1 : Int32} {l2 : Int32} {l3 : Int32} {l4 : Option Value} {l5 : Option Value} {h0 : xm_H} {r0 : Int32} {ro : Option Value} {ho : xm_H} (q0 : ¬ (l3 ≤ (0 : Int32))) (q1 : ¬ ((60 : Int32) < l2 + l3)) (q2 : xm_V X P d 80 [.ref l0, .int (l2 + l3)] h (some (.int r0)) h0) (q3 : X.1[l0]? = some (.inr 9)) (q4 : ¬ (r0 = (-1 : Int32))) (q5 : ¬ (r0 ≤ l1)) (K : xm_E X P d co_X10_leastRoomFor 4 [some (.ref l0), some (.int l1), some (.int (l2 + l3)), some (.int (l3 / (2 : Int32))), some (.int (l2 + l3)), some (.int r0)] [] h0 ro ho) : xm_E X P d co_X10_leastRoomFor 4 [some (.ref l0), some (.int l1), some (.int l2), some (.int l3), l4, l5] [] h ro ho := by
  refine xm_E_s r_X10_leastRoomFor_4 rfl rfl ?_
  refine xm_E_s r_X10_leastRoomFor_5 rfl rfl ?_
  refine xm_E_f q0 ?_
  refine xm_E_s r_X10_leastRoomFor_6 rfl rfl ?_
  refine xm_E_s r_X10_leastRoomFor_7 rfl rfl ?_
  refine xm_E_s r_X10_leastRoomFor_8 rfl rfl ?_
  refine xm_E_s (ls1 := [some (.ref l0), some (.int l1), some (.int l2), some (.int l3), some (.int (l2 + l3)), l5]) r_X10_leastRoomFor_9 rfl rfl ?_
  refine xm_E_s r_X10_leastRoomFor_10 rfl rfl ?_
  refine xm_E_s r_X10_leastRoomFor_11 rfl rfl ?_
  refine xm_E_s r_X10_leastRoomFor_12 rfl rfl ?_
  refine xm_E_f q1 ?_
  refine xm_E_s r_X10_leastRoomFor_13 rfl rfl ?_
  refine xm_E_s r_X10_leastRoomFor_14 rfl rfl ?_
  refine xm_E_cv [.ref l0, .int (l2 + l3)] [] r_X10_leastRoomFor_15 rfl rfl (Nat.le_of_ble_eq_true rfl) (xm_rc q3 (by decide)) rfl q2 ?_
  refine xm_E_s (ls1 := [some (.ref l0), some (.int l1), some (.int l2), some (.int l3), some (.int (l2 + l3)), some (.int r0)]) r_X10_leastRoomFor_16 rfl rfl ?_
  refine xm_E_s r_X10_leastRoomFor_17 rfl rfl ?_
  refine xm_E_s r_X10_leastRoomFor_18 rfl rfl ?_
  refine xm_E_s r_X10_leastRoomFor_19 rfl rfl ?_
  refine xm_E_f q4 ?_
  refine xm_E_s r_X10_leastRoomFor_20 rfl rfl ?_
  refine xm_E_s r_X10_leastRoomFor_21 rfl rfl ?_
  refine xm_E_s r_X10_leastRoomFor_22 rfl rfl ?_
  refine xm_E_f q5 ?_
  refine xm_E_s r_X10_leastRoomFor_23 rfl rfl ?_
  refine xm_E_s (ls1 := [some (.ref l0), some (.int l1), some (.int (l2 + l3)), some (.int l3), some (.int (l2 + l3)), some (.int r0)]) r_X10_leastRoomFor_24 rfl rfl ?_
  refine xm_E_s r_X10_leastRoomFor_25 rfl rfl ?_
  refine xm_E_s r_X10_leastRoomFor_26 rfl rfl ?_
  refine xm_E_s r_X10_leastRoomFor_27 rfl (xm_T_idiv rfl (by decide)) ?_
  refine xm_E_s (ls1 := [some (.ref l0), some (.int l1), some (.int (l2 + l3)), some (.int (l3 / (2 : Int32))), some (.int (l2 + l3)), some (.int r0)]) r_X10_leastRoomFor_28 rfl rfl ?_
  refine xm_E_s r_X10_leastRoomFor_29 rfl rfl ?_
  exact K
theorem r_X10_best_0 : co_X10_best[0]? = some ((0, .aload_n 0, 0, 0, 0, 0, 0, 0, []) : xm_I) := rfl
theorem r_X10_best_1 : co_X10_best[1]? = some ((1, .invokevirtual 178, 873, 78, 1, 9, 0, 0, []) : xm_I) := rfl
theorem r_X10_best_2 : co_X10_best[2]? = some ((4, .ifCond .ne 6, 0, 0, 5, 0, 0, 0, []) : xm_I) := rfl
theorem r_X10_best_3 : co_X10_best[3]? = some ((7, .bipush (-2), 0, 0, 0, 0, (-2), 0, []) : xm_I) := rfl
theorem r_X10_best_4 : co_X10_best[4]? = some ((9, .ireturn, 0, 0, 0, 0, 0, 0, []) : xm_I) := rfl
theorem r_X10_best_5 : co_X10_best[5]? = some ((10, .aload_n 0, 0, 0, 0, 0, 0, 0, []) : xm_I) := rfl
theorem r_X10_best_6 : co_X10_best[6]? = some ((11, .bipush 60, 0, 0, 0, 0, 60, 0, []) : xm_I) := rfl
theorem r_X10_best_7 : co_X10_best[7]? = some ((13, .invokevirtual 181, 881, 80, 2, 9, 0, 0, []) : xm_I) := rfl
theorem r_X10_best_8 : co_X10_best[8]? = some ((16, .istore_n 1, 0, 0, 0, 0, 0, 0, []) : xm_I) := rfl
theorem r_X10_best_9 : co_X10_best[9]? = some ((17, .iload_n 1, 0, 0, 0, 0, 0, 0, []) : xm_I) := rfl
theorem r_X10_best_10 : co_X10_best[10]? = some ((18, .iconst (-1), 0, 0, 0, 0, (-1), 0, []) : xm_I) := rfl
theorem r_X10_best_11 : co_X10_best[11]? = some ((19, .if_icmp .ne 7, 0, 0, 14, 0, 0, 0, []) : xm_I) := rfl
theorem r_X10_best_12 : co_X10_best[12]? = some ((22, .iconst (-1), 0, 0, 0, 0, (-1), 0, []) : xm_I) := rfl
theorem r_X10_best_13 : co_X10_best[13]? = some ((23, .goto 8, 0, 0, 17, 0, 0, 0, []) : xm_I) := rfl
theorem r_X10_best_14 : co_X10_best[14]? = some ((26, .aload_n 0, 0, 0, 0, 0, 0, 0, []) : xm_I) := rfl
theorem r_X10_best_15 : co_X10_best[15]? = some ((27, .iload_n 1, 0, 0, 0, 0, 0, 0, []) : xm_I) := rfl
theorem r_X10_best_16 : co_X10_best[16]? = some ((28, .invokevirtual 213, 999, 105, 2, 9, 0, 0, []) : xm_I) := rfl
theorem r_X10_best_17 : co_X10_best[17]? = some ((31, .ireturn, 0, 0, 0, 0, 0, 0, []) : xm_I) := rfl
theorem p_X10_best_0_0 {X : xm_X} {P : List xm_M} {d : Nat} {h : xm_H} {l0 : Nat} {h0 : xm_H} {r0 : Int32} (q0 : xm_V X P d 78 [.ref l0] h (some (.int r0)) h0) (q1 : X.1[l0]? = some (.inr 9)) (q2 : r0 = (0 : Int32)) : xm_E X P d co_X10_best 0 [some (.ref l0), none] [] h (some (.int (-2 : Int32))) h0 := by
  refine xm_E_s r_X10_best_0 rfl rfl ?_
  refine xm_E_cv [.ref l0] [] r_X10_best_1 rfl rfl (Nat.le_of_ble_eq_true rfl) (xm_rc q1 (by decide)) rfl q0 ?_
  refine xm_E_s r_X10_best_2 rfl rfl ?_
  refine xm_E_t q2 ?_
  refine xm_E_s r_X10_best_3 rfl rfl ?_
  exact xm_E_iret r_X10_best_4 rfl rfl
theorem p_X10_best_0_1 {X : xm_X} {P : List xm_M} {d : Nat} {h : xm_H} {l0 : Nat} {h0 : xm_H} {r0 : Int32} {h1 : xm_H} {r1 : Int32} (q0 : xm_V X P d 78 [.ref l0] h (some (.int r0)) h0) (q1 : X.1[l0]? = some (.inr 9)) (q2 : ¬ (r0 = (0 : Int32))) (q3 : xm_V X P d 80 [.ref l0, .int (60 : Int32)] h0 (some (.int r1)) h1) (q4 : r1 = (-1 : Int32)) : xm_E X P d co_X10_best 0 [some (.ref l0), none] [] h (some (.int (-1 : Int32))) h1 := by
  refine xm_E_s r_X10_best_0 rfl rfl ?_
  refine xm_E_cv [.ref l0] [] r_X10_best_1 rfl rfl (Nat.le_of_ble_eq_true rfl) (xm_rc q1 (by decide)) rfl q0 ?_
  refine xm_E_s r_X10_best_2 rfl rfl ?_
  refine xm_E_f q2 ?_
  refine xm_E_s r_X10_best_5 rfl rfl ?_
  refine xm_E_s r_X10_best_6 rfl rfl ?_
  refine xm_E_cv [.ref l0, .int (60 : Int32)] [] r_X10_best_7 rfl rfl (Nat.le_of_ble_eq_true rfl) (xm_rc q1 (by decide)) rfl q3 ?_
  refine xm_E_s (ls1 := [some (.ref l0), some (.int r1)]) r_X10_best_8 rfl rfl ?_
  refine xm_E_s r_X10_best_9 rfl rfl ?_
  refine xm_E_s r_X10_best_10 rfl rfl ?_
  refine xm_E_s r_X10_best_11 rfl rfl ?_
  refine xm_E_t q4 ?_
  refine xm_E_s r_X10_best_12 rfl rfl ?_
  refine xm_E_s r_X10_best_13 rfl rfl ?_
  exact xm_E_iret r_X10_best_17 rfl rfl
theorem p_X10_best_0_2 {X : xm_X} {P : List xm_M} {d : Nat} {h : xm_H} {l0 : Nat} {h0 : xm_H} {r0 : Int32} {h1 : xm_H} {r1 : Int32} {h2 : xm_H} {r2 : Int32} (q0 : xm_V X P d 78 [.ref l0] h (some (.int r0)) h0) (q1 : X.1[l0]? = some (.inr 9)) (q2 : ¬ (r0 = (0 : Int32))) (q3 : xm_V X P d 80 [.ref l0, .int (60 : Int32)] h0 (some (.int r1)) h1) (q4 : ¬ (r1 = (-1 : Int32))) (q5 : xm_V X P d 105 [.ref l0, .int r1] h1 (some (.int r2)) h2) : xm_E X P d co_X10_best 0 [some (.ref l0), none] [] h (some (.int r2)) h2 := by
  refine xm_E_s r_X10_best_0 rfl rfl ?_
  refine xm_E_cv [.ref l0] [] r_X10_best_1 rfl rfl (Nat.le_of_ble_eq_true rfl) (xm_rc q1 (by decide)) rfl q0 ?_
  refine xm_E_s r_X10_best_2 rfl rfl ?_
  refine xm_E_f q2 ?_
  refine xm_E_s r_X10_best_5 rfl rfl ?_
  refine xm_E_s r_X10_best_6 rfl rfl ?_
  refine xm_E_cv [.ref l0, .int (60 : Int32)] [] r_X10_best_7 rfl rfl (Nat.le_of_ble_eq_true rfl) (xm_rc q1 (by decide)) rfl q3 ?_
  refine xm_E_s (ls1 := [some (.ref l0), some (.int r1)]) r_X10_best_8 rfl rfl ?_
  refine xm_E_s r_X10_best_9 rfl rfl ?_
  refine xm_E_s r_X10_best_10 rfl rfl ?_
  refine xm_E_s r_X10_best_11 rfl rfl ?_
  refine xm_E_f q4 ?_
  refine xm_E_s r_X10_best_14 rfl rfl ?_
  refine xm_E_s r_X10_best_15 rfl rfl ?_
  refine xm_E_cv [.ref l0, .int r1] [] r_X10_best_16 rfl rfl (Nat.le_of_ble_eq_true rfl) (xm_rc q1 (by decide)) rfl q5 ?_
  exact xm_E_iret r_X10_best_17 rfl rfl
theorem r_X10_parcel_0 : co_X10_parcel[0]? = some ((0, .aload_n 0, 0, 0, 0, 0, 0, 0, []) : xm_I) := rfl
theorem r_X10_parcel_1 : co_X10_parcel[1]? = some ((1, .getfield 19, 482, 9, 1, 2, 0, 0, []) : xm_I) := rfl
theorem r_X10_parcel_2 : co_X10_parcel[2]? = some ((4, .invokevirtual 113, 696, 36, 1, 8, 0, 0, []) : xm_I) := rfl
theorem r_X10_parcel_3 : co_X10_parcel[3]? = some ((7, .ifCond .ne 17, 0, 0, 10, 0, 0, 0, []) : xm_I) := rfl
theorem r_X10_parcel_4 : co_X10_parcel[4]? = some ((10, .iload_n 1, 0, 0, 0, 0, 0, 0, []) : xm_I) := rfl
theorem r_X10_parcel_5 : co_X10_parcel[5]? = some ((11, .invokestatic 216, 1011, 108, 1, 0, 0, 0, []) : xm_I) := rfl
theorem r_X10_parcel_6 : co_X10_parcel[6]? = some ((14, .ifCond .eq 10, 0, 0, 10, 0, 0, 0, []) : xm_I) := rfl
theorem r_X10_parcel_7 : co_X10_parcel[7]? = some ((17, .iload_n 2, 0, 0, 0, 0, 0, 0, []) : xm_I) := rfl
theorem r_X10_parcel_8 : co_X10_parcel[8]? = some ((18, .invokestatic 216, 1011, 108, 1, 0, 0, 0, []) : xm_I) := rfl
theorem r_X10_parcel_9 : co_X10_parcel[9]? = some ((21, .ifCond .ne 6, 0, 0, 12, 0, 0, 0, []) : xm_I) := rfl
theorem r_X10_parcel_10 : co_X10_parcel[10]? = some ((24, .bipush (-2), 0, 0, 0, 0, (-2), 0, []) : xm_I) := rfl
theorem r_X10_parcel_11 : co_X10_parcel[11]? = some ((26, .ireturn, 0, 0, 0, 0, 0, 0, []) : xm_I) := rfl
theorem r_X10_parcel_12 : co_X10_parcel[12]? = some ((27, .aload_n 0, 0, 0, 0, 0, 0, 0, []) : xm_I) := rfl
theorem r_X10_parcel_13 : co_X10_parcel[13]? = some ((28, .invokevirtual 184, 937, 91, 1, 9, 0, 0, []) : xm_I) := rfl
theorem r_X10_parcel_14 : co_X10_parcel[14]? = some ((31, .aload_n 0, 0, 0, 0, 0, 0, 0, []) : xm_I) := rfl
theorem r_X10_parcel_15 : co_X10_parcel[15]? = some ((32, .getfield 43, 486, 9, 5, 2, 0, 0, []) : xm_I) := rfl
theorem r_X10_parcel_16 : co_X10_parcel[16]? = some ((35, .aload_n 0, 0, 0, 0, 0, 0, 0, []) : xm_I) := rfl
theorem r_X10_parcel_17 : co_X10_parcel[17]? = some ((36, .getfield 43, 486, 9, 5, 2, 0, 0, []) : xm_I) := rfl
theorem r_X10_parcel_18 : co_X10_parcel[18]? = some ((39, .iload_n 1, 0, 0, 0, 0, 0, 0, []) : xm_I) := rfl
theorem r_X10_parcel_19 : co_X10_parcel[19]? = some ((40, .iload_n 2, 0, 0, 0, 0, 0, 0, []) : xm_I) := rfl
theorem r_X10_parcel_20 : co_X10_parcel[20]? = some ((41, .invokevirtual 219, 1014, 109, 3, 3, 0, 0, []) : xm_I) := rfl
theorem r_X10_parcel_21 : co_X10_parcel[21]? = some ((44, .invokevirtual 209, 929, 89, 2, 3, 0, 0, []) : xm_I) := rfl
theorem r_X10_parcel_22 : co_X10_parcel[22]? = some ((47, .ireturn, 0, 0, 0, 0, 0, 0, []) : xm_I) := rfl
theorem p_X10_parcel_0_0 {X : xm_X} {P : List xm_M} {d : Nat} {h : xm_H} {l0 : Nat} {l1 : Int32} {l2 : Int32} {v0 : Nat} {h1 : xm_H} {r1 : Int32} {h2 : xm_H} {r2 : Int32} (q0 : X.1[l0]? = some (.inr 9)) (q1 : h.2.2 l0 1 = some v0) (q2 : xm_V X P d 36 [.ref v0] h (some (.int r1)) h1) (q3 : X.1[v0]? = some (.inr 8)) (q4 : r1 = (0 : Int32)) (q5 : xm_V X P d 108 [.int l1] h1 (some (.int r2)) h2) (q6 : r2 = (0 : Int32)) : xm_E X P d co_X10_parcel 0 [some (.ref l0), some (.int l1), some (.int l2)] [] h (some (.int (-2 : Int32))) h2 := by
  refine xm_E_s r_X10_parcel_0 rfl rfl ?_
  refine xm_E_s r_X10_parcel_1 rfl (xm_T_gr rfl q0 rfl rfl q1) ?_
  refine xm_E_cv [.ref v0] [] r_X10_parcel_2 rfl rfl (Nat.le_of_ble_eq_true rfl) (xm_rc q3 (by decide)) rfl q2 ?_
  refine xm_E_s r_X10_parcel_3 rfl rfl ?_
  refine xm_E_t q4 ?_
  refine xm_E_s r_X10_parcel_4 rfl rfl ?_
  refine xm_E_cs [.int l1] [] r_X10_parcel_5 rfl rfl rfl (Nat.le_of_ble_eq_true rfl) rfl q5 ?_
  refine xm_E_s r_X10_parcel_6 rfl rfl ?_
  refine xm_E_t q6 ?_
  refine xm_E_s r_X10_parcel_10 rfl rfl ?_
  exact xm_E_iret r_X10_parcel_11 rfl rfl
theorem p_X10_parcel_0_1 {X : xm_X} {P : List xm_M} {d : Nat} {h : xm_H} {l0 : Nat} {l1 : Int32} {l2 : Int32} {v0 : Nat} {h1 : xm_H} {r1 : Int32} {h2 : xm_H} {r2 : Int32} {h3 : xm_H} {r3 : Int32} (q0 : X.1[l0]? = some (.inr 9)) (q1 : h.2.2 l0 1 = some v0) (q2 : xm_V X P d 36 [.ref v0] h (some (.int r1)) h1) (q3 : X.1[v0]? = some (.inr 8)) (q4 : r1 = (0 : Int32)) (q5 : xm_V X P d 108 [.int l1] h1 (some (.int r2)) h2) (q6 : ¬ (r2 = (0 : Int32))) (q7 : xm_V X P d 108 [.int l2] h2 (some (.int r3)) h3) (q8 : r3 = (0 : Int32)) : xm_E X P d co_X10_parcel 0 [some (.ref l0), some (.int l1), some (.int l2)] [] h (some (.int (-2 : Int32))) h3 := by
  refine xm_E_s r_X10_parcel_0 rfl rfl ?_
  refine xm_E_s r_X10_parcel_1 rfl (xm_T_gr rfl q0 rfl rfl q1) ?_
  refine xm_E_cv [.ref v0] [] r_X10_parcel_2 rfl rfl (Nat.le_of_ble_eq_true rfl) (xm_rc q3 (by decide)) rfl q2 ?_
  refine xm_E_s r_X10_parcel_3 rfl rfl ?_
  refine xm_E_t q4 ?_
  refine xm_E_s r_X10_parcel_4 rfl rfl ?_
  refine xm_E_cs [.int l1] [] r_X10_parcel_5 rfl rfl rfl (Nat.le_of_ble_eq_true rfl) rfl q5 ?_
  refine xm_E_s r_X10_parcel_6 rfl rfl ?_
  refine xm_E_f q6 ?_
  refine xm_E_s r_X10_parcel_7 rfl rfl ?_
  refine xm_E_cs [.int l2] [] r_X10_parcel_8 rfl rfl rfl (Nat.le_of_ble_eq_true rfl) rfl q7 ?_
  refine xm_E_s r_X10_parcel_9 rfl rfl ?_
  refine xm_E_t q8 ?_
  refine xm_E_s r_X10_parcel_10 rfl rfl ?_
  exact xm_E_iret r_X10_parcel_11 rfl rfl
theorem p_X10_parcel_0_2 {X : xm_X} {P : List xm_M} {d : Nat} {h : xm_H} {l0 : Nat} {l1 : Int32} {l2 : Int32} {v0 : Nat} {h1 : xm_H} {r1 : Int32} {h2 : xm_H} {r2 : Int32} {h3 : xm_H} {r3 : Int32} {h4 : xm_H} {v5 : Nat} {h6 : xm_H} {r6 : Int32} {h7 : xm_H} {r7 : Int32} (q0 : X.1[l0]? = some (.inr 9)) (q1 : h.2.2 l0 1 = some v0) (q2 : xm_V X P d 36 [.ref v0] h (some (.int r1)) h1) (q3 : X.1[v0]? = some (.inr 8)) (q4 : r1 = (0 : Int32)) (q5 : xm_V X P d 108 [.int l1] h1 (some (.int r2)) h2) (q6 : ¬ (r2 = (0 : Int32))) (q7 : xm_V X P d 108 [.int l2] h2 (some (.int r3)) h3) (q8 : ¬ (r3 = (0 : Int32))) (q9 : xm_V X P d 91 [.ref l0] h3 none h4) (q10 : h4.2.2 l0 5 = some v5) (q11 : xm_V X P d 109 [.ref v5, .int l1, .int l2] h4 (some (.int r6)) h6) (q12 : X.1[v5]? = some (.inr 3)) (q13 : xm_V X P d 89 [.ref v5, .int r6] h6 (some (.int r7)) h7) : xm_E X P d co_X10_parcel 0 [some (.ref l0), some (.int l1), some (.int l2)] [] h (some (.int r7)) h7 := by
  refine xm_E_s r_X10_parcel_0 rfl rfl ?_
  refine xm_E_s r_X10_parcel_1 rfl (xm_T_gr rfl q0 rfl rfl q1) ?_
  refine xm_E_cv [.ref v0] [] r_X10_parcel_2 rfl rfl (Nat.le_of_ble_eq_true rfl) (xm_rc q3 (by decide)) rfl q2 ?_
  refine xm_E_s r_X10_parcel_3 rfl rfl ?_
  refine xm_E_t q4 ?_
  refine xm_E_s r_X10_parcel_4 rfl rfl ?_
  refine xm_E_cs [.int l1] [] r_X10_parcel_5 rfl rfl rfl (Nat.le_of_ble_eq_true rfl) rfl q5 ?_
  refine xm_E_s r_X10_parcel_6 rfl rfl ?_
  refine xm_E_f q6 ?_
  refine xm_E_s r_X10_parcel_7 rfl rfl ?_
  refine xm_E_cs [.int l2] [] r_X10_parcel_8 rfl rfl rfl (Nat.le_of_ble_eq_true rfl) rfl q7 ?_
  refine xm_E_s r_X10_parcel_9 rfl rfl ?_
  refine xm_E_f q8 ?_
  refine xm_E_s r_X10_parcel_12 rfl rfl ?_
  refine xm_E_cv [.ref l0] [] r_X10_parcel_13 rfl rfl (Nat.le_of_ble_eq_true rfl) (xm_rc q0 (by decide)) rfl q9 ?_
  refine xm_E_s r_X10_parcel_14 rfl rfl ?_
  refine xm_E_s r_X10_parcel_15 rfl (xm_T_gr rfl q0 rfl rfl q10) ?_
  refine xm_E_s r_X10_parcel_16 rfl rfl ?_
  refine xm_E_s r_X10_parcel_17 rfl (xm_T_gr rfl q0 rfl rfl q10) ?_
  refine xm_E_s r_X10_parcel_18 rfl rfl ?_
  refine xm_E_s r_X10_parcel_19 rfl rfl ?_
  refine xm_E_cv [.ref v5, .int l1, .int l2] [.ref v5] r_X10_parcel_20 rfl rfl (Nat.le_of_ble_eq_true rfl) (xm_rc q12 (by decide)) rfl q11 ?_
  refine xm_E_cv [.ref v5, .int r6] [] r_X10_parcel_21 rfl rfl (Nat.le_of_ble_eq_true rfl) (xm_rc q12 (by decide)) rfl q13 ?_
  exact xm_E_iret r_X10_parcel_22 rfl rfl
theorem p_X10_parcel_0_3 {X : xm_X} {P : List xm_M} {d : Nat} {h : xm_H} {l0 : Nat} {l1 : Int32} {l2 : Int32} {v0 : Nat} {h1 : xm_H} {r1 : Int32} (q0 : X.1[l0]? = some (.inr 9)) (q1 : h.2.2 l0 1 = some v0) (q2 : xm_V X P d 36 [.ref v0] h (some (.int r1)) h1) (q3 : X.1[v0]? = some (.inr 8)) (q4 : ¬ (r1 = (0 : Int32))) : xm_E X P d co_X10_parcel 0 [some (.ref l0), some (.int l1), some (.int l2)] [] h (some (.int (-2 : Int32))) h1 := by
  refine xm_E_s r_X10_parcel_0 rfl rfl ?_
  refine xm_E_s r_X10_parcel_1 rfl (xm_T_gr rfl q0 rfl rfl q1) ?_
  refine xm_E_cv [.ref v0] [] r_X10_parcel_2 rfl rfl (Nat.le_of_ble_eq_true rfl) (xm_rc q3 (by decide)) rfl q2 ?_
  refine xm_E_s r_X10_parcel_3 rfl rfl ?_
  refine xm_E_f q4 ?_
  refine xm_E_s r_X10_parcel_10 rfl rfl ?_
  exact xm_E_iret r_X10_parcel_11 rfl rfl
theorem r_X10_isSize_0 : co_X10_isSize[0]? = some ((0, .iload_n 0, 0, 0, 0, 0, 0, 0, []) : xm_I) := rfl
theorem r_X10_isSize_1 : co_X10_isSize[1]? = some ((1, .iconst 1, 0, 0, 0, 0, 1, 0, []) : xm_I) := rfl
theorem r_X10_isSize_2 : co_X10_isSize[2]? = some ((2, .if_icmp .lt 13, 0, 0, 8, 0, 0, 0, []) : xm_I) := rfl
theorem r_X10_isSize_3 : co_X10_isSize[3]? = some ((5, .iload_n 0, 0, 0, 0, 0, 0, 0, []) : xm_I) := rfl
theorem r_X10_isSize_4 : co_X10_isSize[4]? = some ((6, .bipush 48, 0, 0, 0, 0, 48, 0, []) : xm_I) := rfl
theorem r_X10_isSize_5 : co_X10_isSize[5]? = some ((8, .if_icmp .gt 7, 0, 0, 8, 0, 0, 0, []) : xm_I) := rfl
theorem r_X10_isSize_6 : co_X10_isSize[6]? = some ((11, .iconst 1, 0, 0, 0, 0, 1, 0, []) : xm_I) := rfl
theorem r_X10_isSize_7 : co_X10_isSize[7]? = some ((12, .goto 4, 0, 0, 9, 0, 0, 0, []) : xm_I) := rfl
theorem r_X10_isSize_8 : co_X10_isSize[8]? = some ((15, .iconst 0, 0, 0, 0, 0, 0, 0, []) : xm_I) := rfl
theorem r_X10_isSize_9 : co_X10_isSize[9]? = some ((16, .ireturn, 0, 0, 0, 3, 0, 0, []) : xm_I) := rfl
theorem p_X10_isSize_0_0 {X : xm_X} {P : List xm_M} {d : Nat} {h : xm_H} {l0 : Int32} (q0 : l0 < (1 : Int32)) : xm_E X P d co_X10_isSize 0 [some (.int l0)] [] h (some (.int (0 : Int32))) h := by
  refine xm_E_s r_X10_isSize_0 rfl rfl ?_
  refine xm_E_s r_X10_isSize_1 rfl rfl ?_
  refine xm_E_s r_X10_isSize_2 rfl rfl ?_
  refine xm_E_t q0 ?_
  refine xm_E_s r_X10_isSize_8 rfl rfl ?_
  exact xm_E_iret r_X10_isSize_9 rfl rfl
theorem p_X10_isSize_0_1 {X : xm_X} {P : List xm_M} {d : Nat} {h : xm_H} {l0 : Int32} (q0 : ¬ (l0 < (1 : Int32))) (q1 : (48 : Int32) < l0) : xm_E X P d co_X10_isSize 0 [some (.int l0)] [] h (some (.int (0 : Int32))) h := by
  refine xm_E_s r_X10_isSize_0 rfl rfl ?_
  refine xm_E_s r_X10_isSize_1 rfl rfl ?_
  refine xm_E_s r_X10_isSize_2 rfl rfl ?_
  refine xm_E_f q0 ?_
  refine xm_E_s r_X10_isSize_3 rfl rfl ?_
  refine xm_E_s r_X10_isSize_4 rfl rfl ?_
  refine xm_E_s r_X10_isSize_5 rfl rfl ?_
  refine xm_E_t q1 ?_
  refine xm_E_s r_X10_isSize_8 rfl rfl ?_
  exact xm_E_iret r_X10_isSize_9 rfl rfl
theorem p_X10_isSize_0_2 {X : xm_X} {P : List xm_M} {d : Nat} {h : xm_H} {l0 : Int32} (q0 : ¬ (l0 < (1 : Int32))) (q1 : ¬ ((48 : Int32) < l0)) : xm_E X P d co_X10_isSize 0 [some (.int l0)] [] h (some (.int (1 : Int32))) h := by
  refine xm_E_s r_X10_isSize_0 rfl rfl ?_
  refine xm_E_s r_X10_isSize_1 rfl rfl ?_
  refine xm_E_s r_X10_isSize_2 rfl rfl ?_
  refine xm_E_f q0 ?_
  refine xm_E_s r_X10_isSize_3 rfl rfl ?_
  refine xm_E_s r_X10_isSize_4 rfl rfl ?_
  refine xm_E_s r_X10_isSize_5 rfl rfl ?_
  refine xm_E_f q1 ?_
  refine xm_E_s r_X10_isSize_6 rfl rfl ?_
  refine xm_E_s r_X10_isSize_7 rfl rfl ?_
  exact xm_E_iret r_X10_isSize_9 rfl rfl
theorem r_X10_parcels_0 : co_X10_parcels[0]? = some ((0, .aload_n 0, 0, 0, 0, 0, 0, 0, []) : xm_I) := rfl
theorem r_X10_parcels_1 : co_X10_parcels[1]? = some ((1, .getfield 19, 482, 9, 1, 2, 0, 0, []) : xm_I) := rfl
theorem r_X10_parcels_2 : co_X10_parcels[2]? = some ((4, .invokevirtual 113, 696, 36, 1, 8, 0, 0, []) : xm_I) := rfl
theorem r_X10_parcels_3 : co_X10_parcels[3]? = some ((7, .ifCond .eq 6, 0, 0, 6, 0, 0, 0, []) : xm_I) := rfl
theorem r_X10_parcels_4 : co_X10_parcels[4]? = some ((10, .bipush (-2), 0, 0, 0, 0, (-2), 0, []) : xm_I) := rfl
theorem r_X10_parcels_5 : co_X10_parcels[5]? = some ((12, .ireturn, 0, 0, 0, 0, 0, 0, []) : xm_I) := rfl
theorem r_X10_parcels_6 : co_X10_parcels[6]? = some ((13, .aload_n 0, 0, 0, 0, 0, 0, 0, []) : xm_I) := rfl
theorem r_X10_parcels_7 : co_X10_parcels[7]? = some ((14, .invokevirtual 184, 937, 91, 1, 9, 0, 0, []) : xm_I) := rfl
theorem r_X10_parcels_8 : co_X10_parcels[8]? = some ((17, .aload_n 0, 0, 0, 0, 0, 0, 0, []) : xm_I) := rfl
theorem r_X10_parcels_9 : co_X10_parcels[9]? = some ((18, .getfield 43, 486, 9, 5, 2, 0, 0, []) : xm_I) := rfl
theorem r_X10_parcels_10 : co_X10_parcels[10]? = some ((21, .getfield 222, 357, 3, 15, 0, 0, 0, []) : xm_I) := rfl
theorem r_X10_parcels_11 : co_X10_parcels[11]? = some ((24, .ireturn, 0, 0, 0, 0, 0, 0, []) : xm_I) := rfl
theorem p_X10_parcels_0_0 {X : xm_X} {P : List xm_M} {d : Nat} {h : xm_H} {l0 : Nat} {v0 : Nat} {h1 : xm_H} {r1 : Int32} {h2 : xm_H} {v3 : Nat} (q0 : X.1[l0]? = some (.inr 9)) (q1 : h.2.2 l0 1 = some v0) (q2 : xm_V X P d 36 [.ref v0] h (some (.int r1)) h1) (q3 : X.1[v0]? = some (.inr 8)) (q4 : r1 = (0 : Int32)) (q5 : xm_V X P d 91 [.ref l0] h1 none h2) (q6 : h2.2.2 l0 5 = some v3) (q7 : X.1[v3]? = some (.inr 3)) : xm_E X P d co_X10_parcels 0 [some (.ref l0)] [] h (some (.int (h2.1 v3 15))) h2 := by
  refine xm_E_s r_X10_parcels_0 rfl rfl ?_
  refine xm_E_s r_X10_parcels_1 rfl (xm_T_gr rfl q0 rfl rfl q1) ?_
  refine xm_E_cv [.ref v0] [] r_X10_parcels_2 rfl rfl (Nat.le_of_ble_eq_true rfl) (xm_rc q3 (by decide)) rfl q2 ?_
  refine xm_E_s r_X10_parcels_3 rfl rfl ?_
  refine xm_E_t q4 ?_
  refine xm_E_s r_X10_parcels_6 rfl rfl ?_
  refine xm_E_cv [.ref l0] [] r_X10_parcels_7 rfl rfl (Nat.le_of_ble_eq_true rfl) (xm_rc q0 (by decide)) rfl q5 ?_
  refine xm_E_s r_X10_parcels_8 rfl rfl ?_
  refine xm_E_s r_X10_parcels_9 rfl (xm_T_gr rfl q0 rfl rfl q6) ?_
  refine xm_E_s r_X10_parcels_10 rfl (xm_T_gi rfl q7 rfl (Or.inl rfl)) ?_
  exact xm_E_iret r_X10_parcels_11 rfl rfl
theorem p_X10_parcels_0_1 {X : xm_X} {P : List xm_M} {d : Nat} {h : xm_H} {l0 : Nat} {v0 : Nat} {h1 : xm_H} {r1 : Int32} (q0 : X.1[l0]? = some (.inr 9)) (q1 : h.2.2 l0 1 = some v0) (q2 : xm_V X P d 36 [.ref v0] h (some (.int r1)) h1) (q3 : X.1[v0]? = some (.inr 8)) (q4 : ¬ (r1 = (0 : Int32))) : xm_E X P d co_X10_parcels 0 [some (.ref l0)] [] h (some (.int (-2 : Int32))) h1 := by
  refine xm_E_s r_X10_parcels_0 rfl rfl ?_
  refine xm_E_s r_X10_parcels_1 rfl (xm_T_gr rfl q0 rfl rfl q1) ?_
  refine xm_E_cv [.ref v0] [] r_X10_parcels_2 rfl rfl (Nat.le_of_ble_eq_true rfl) (xm_rc q3 (by decide)) rfl q2 ?_
  refine xm_E_s r_X10_parcels_3 rfl rfl ?_
  refine xm_E_f q4 ?_
  refine xm_E_s r_X10_parcels_4 rfl rfl ?_
  exact xm_E_iret r_X10_parcels_5 rfl rfl
theorem r_X10_reach_0 : co_X10_reach[0]? = some ((0, .aload_n 0, 0, 0, 0, 0, 0, 0, []) : xm_I) := rfl
theorem r_X10_reach_1 : co_X10_reach[1]? = some ((1, .getfield 19, 482, 9, 1, 2, 0, 0, []) : xm_I) := rfl
theorem r_X10_reach_2 : co_X10_reach[2]? = some ((4, .invokevirtual 113, 696, 36, 1, 8, 0, 0, []) : xm_I) := rfl
theorem r_X10_reach_3 : co_X10_reach[3]? = some ((7, .ifCond .ne 13, 0, 0, 9, 0, 0, 0, []) : xm_I) := rfl
theorem r_X10_reach_4 : co_X10_reach[4]? = some ((10, .iload_n 1, 0, 0, 0, 0, 0, 0, []) : xm_I) := rfl
theorem r_X10_reach_5 : co_X10_reach[5]? = some ((11, .ifCond .lt 9, 0, 0, 9, 0, 0, 0, []) : xm_I) := rfl
theorem r_X10_reach_6 : co_X10_reach[6]? = some ((14, .iload_n 1, 0, 0, 0, 0, 0, 0, []) : xm_I) := rfl
theorem r_X10_reach_7 : co_X10_reach[7]? = some ((15, .bipush 20, 0, 0, 0, 0, 20, 0, []) : xm_I) := rfl
theorem r_X10_reach_8 : co_X10_reach[8]? = some ((17, .if_icmp .le 6, 0, 0, 11, 0, 0, 0, []) : xm_I) := rfl
theorem r_X10_reach_9 : co_X10_reach[9]? = some ((20, .bipush (-2), 0, 0, 0, 0, (-2), 0, []) : xm_I) := rfl
theorem r_X10_reach_10 : co_X10_reach[10]? = some ((22, .ireturn, 0, 0, 0, 0, 0, 0, []) : xm_I) := rfl
theorem r_X10_reach_11 : co_X10_reach[11]? = some ((23, .aload_n 0, 0, 0, 0, 0, 0, 0, []) : xm_I) := rfl
theorem r_X10_reach_12 : co_X10_reach[12]? = some ((24, .invokevirtual 184, 937, 91, 1, 9, 0, 0, []) : xm_I) := rfl
theorem r_X10_reach_13 : co_X10_reach[13]? = some ((27, .aload_n 0, 0, 0, 0, 0, 0, 0, []) : xm_I) := rfl
theorem r_X10_reach_14 : co_X10_reach[14]? = some ((28, .getfield 43, 486, 9, 5, 2, 0, 0, []) : xm_I) := rfl
theorem r_X10_reach_15 : co_X10_reach[15]? = some ((31, .iload_n 1, 0, 0, 0, 0, 0, 0, []) : xm_I) := rfl
theorem r_X10_reach_16 : co_X10_reach[16]? = some ((32, .invokevirtual 225, 1026, 112, 2, 3, 0, 0, []) : xm_I) := rfl
theorem r_X10_reach_17 : co_X10_reach[17]? = some ((35, .ireturn, 0, 0, 0, 0, 0, 0, []) : xm_I) := rfl
theorem p_X10_reach_0_0 {X : xm_X} {P : List xm_M} {d : Nat} {h : xm_H} {l0 : Nat} {l1 : Int32} {v0 : Nat} {h1 : xm_H} {r1 : Int32} (q0 : X.1[l0]? = some (.inr 9)) (q1 : h.2.2 l0 1 = some v0) (q2 : xm_V X P d 36 [.ref v0] h (some (.int r1)) h1) (q3 : X.1[v0]? = some (.inr 8)) (q4 : r1 = (0 : Int32)) (q5 : l1 < (0 : Int32)) : xm_E X P d co_X10_reach 0 [some (.ref l0), some (.int l1)] [] h (some (.int (-2 : Int32))) h1 := by
  refine xm_E_s r_X10_reach_0 rfl rfl ?_
  refine xm_E_s r_X10_reach_1 rfl (xm_T_gr rfl q0 rfl rfl q1) ?_
  refine xm_E_cv [.ref v0] [] r_X10_reach_2 rfl rfl (Nat.le_of_ble_eq_true rfl) (xm_rc q3 (by decide)) rfl q2 ?_
  refine xm_E_s r_X10_reach_3 rfl rfl ?_
  refine xm_E_t q4 ?_
  refine xm_E_s r_X10_reach_4 rfl rfl ?_
  refine xm_E_s r_X10_reach_5 rfl rfl ?_
  refine xm_E_t q5 ?_
  refine xm_E_s r_X10_reach_9 rfl rfl ?_
  exact xm_E_iret r_X10_reach_10 rfl rfl
theorem p_X10_reach_0_1 {X : xm_X} {P : List xm_M} {d : Nat} {h : xm_H} {l0 : Nat} {l1 : Int32} {v0 : Nat} {h1 : xm_H} {r1 : Int32} {h2 : xm_H} {v3 : Nat} {h4 : xm_H} {r4 : Int32} (q0 : X.1[l0]? = some (.inr 9)) (q1 : h.2.2 l0 1 = some v0) (q2 : xm_V X P d 36 [.ref v0] h (some (.int r1)) h1) (q3 : X.1[v0]? = some (.inr 8)) (q4 : r1 = (0 : Int32)) (q5 : ¬ (l1 < (0 : Int32))) (q6 : l1 ≤ (20 : Int32)) (q7 : xm_V X P d 91 [.ref l0] h1 none h2) (q8 : h2.2.2 l0 5 = some v3) (q9 : xm_V X P d 112 [.ref v3, .int l1] h2 (some (.int r4)) h4) (q10 : X.1[v3]? = some (.inr 3)) : xm_E X P d co_X10_reach 0 [some (.ref l0), some (.int l1)] [] h (some (.int r4)) h4 := by
  refine xm_E_s r_X10_reach_0 rfl rfl ?_
  refine xm_E_s r_X10_reach_1 rfl (xm_T_gr rfl q0 rfl rfl q1) ?_
  refine xm_E_cv [.ref v0] [] r_X10_reach_2 rfl rfl (Nat.le_of_ble_eq_true rfl) (xm_rc q3 (by decide)) rfl q2 ?_
  refine xm_E_s r_X10_reach_3 rfl rfl ?_
  refine xm_E_t q4 ?_
  refine xm_E_s r_X10_reach_4 rfl rfl ?_
  refine xm_E_s r_X10_reach_5 rfl rfl ?_
  refine xm_E_f q5 ?_
  refine xm_E_s r_X10_reach_6 rfl rfl ?_
  refine xm_E_s r_X10_reach_7 rfl rfl ?_
  refine xm_E_s r_X10_reach_8 rfl rfl ?_
  refine xm_E_t q6 ?_
  refine xm_E_s r_X10_reach_11 rfl rfl ?_
  refine xm_E_cv [.ref l0] [] r_X10_reach_12 rfl rfl (Nat.le_of_ble_eq_true rfl) (xm_rc q0 (by decide)) rfl q7 ?_
  refine xm_E_s r_X10_reach_13 rfl rfl ?_
  refine xm_E_s r_X10_reach_14 rfl (xm_T_gr rfl q0 rfl rfl q8) ?_
  refine xm_E_s r_X10_reach_15 rfl rfl ?_
  refine xm_E_cv [.ref v3, .int l1] [] r_X10_reach_16 rfl rfl (Nat.le_of_ble_eq_true rfl) (xm_rc q10 (by decide)) rfl q9 ?_
  exact xm_E_iret r_X10_reach_17 rfl rfl
theorem p_X10_reach_0_2 {X : xm_X} {P : List xm_M} {d : Nat} {h : xm_H} {l0 : Nat} {l1 : Int32} {v0 : Nat} {h1 : xm_H} {r1 : Int32} (q0 : X.1[l0]? = some (.inr 9)) (q1 : h.2.2 l0 1 = some v0) (q2 : xm_V X P d 36 [.ref v0] h (some (.int r1)) h1) (q3 : X.1[v0]? = some (.inr 8)) (q4 : r1 = (0 : Int32)) (q5 : ¬ (l1 < (0 : Int32))) (q6 : ¬ (l1 ≤ (20 : Int32))) : xm_E X P d co_X10_reach 0 [some (.ref l0), some (.int l1)] [] h (some (.int (-2 : Int32))) h1 := by
  refine xm_E_s r_X10_reach_0 rfl rfl ?_
  refine xm_E_s r_X10_reach_1 rfl (xm_T_gr rfl q0 rfl rfl q1) ?_
  refine xm_E_cv [.ref v0] [] r_X10_reach_2 rfl rfl (Nat.le_of_ble_eq_true rfl) (xm_rc q3 (by decide)) rfl q2 ?_
  refine xm_E_s r_X10_reach_3 rfl rfl ?_
  refine xm_E_t q4 ?_
  refine xm_E_s r_X10_reach_4 rfl rfl ?_
  refine xm_E_s r_X10_reach_5 rfl rfl ?_
  refine xm_E_f q5 ?_
  refine xm_E_s r_X10_reach_6 rfl rfl ?_
  refine xm_E_s r_X10_reach_7 rfl rfl ?_
  refine xm_E_s r_X10_reach_8 rfl rfl ?_
  refine xm_E_f q6 ?_
  refine xm_E_s r_X10_reach_9 rfl rfl ?_
  exact xm_E_iret r_X10_reach_10 rfl rfl
theorem p_X10_reach_0_3 {X : xm_X} {P : List xm_M} {d : Nat} {h : xm_H} {l0 : Nat} {l1 : Int32} {v0 : Nat} {h1 : xm_H} {r1 : Int32} (q0 : X.1[l0]? = some (.inr 9)) (q1 : h.2.2 l0 1 = some v0) (q2 : xm_V X P d 36 [.ref v0] h (some (.int r1)) h1) (q3 : X.1[v0]? = some (.inr 8)) (q4 : ¬ (r1 = (0 : Int32))) : xm_E X P d co_X10_reach 0 [some (.ref l0), some (.int l1)] [] h (some (.int (-2 : Int32))) h1 := by
  refine xm_E_s r_X10_reach_0 rfl rfl ?_
  refine xm_E_s r_X10_reach_1 rfl (xm_T_gr rfl q0 rfl rfl q1) ?_
  refine xm_E_cv [.ref v0] [] r_X10_reach_2 rfl rfl (Nat.le_of_ble_eq_true rfl) (xm_rc q3 (by decide)) rfl q2 ?_
  refine xm_E_s r_X10_reach_3 rfl rfl ?_
  refine xm_E_f q4 ?_
  refine xm_E_s r_X10_reach_9 rfl rfl ?_
  exact xm_E_iret r_X10_reach_10 rfl rfl
theorem r_X10_most_0 : co_X10_most[0]? = some ((0, .aload_n 0, 0, 0, 0, 0, 0, 0, []) : xm_I) := rfl
theorem r_X10_most_1 : co_X10_most[1]? = some ((1, .getfield 19, 482, 9, 1, 2, 0, 0, []) : xm_I) := rfl
theorem r_X10_most_2 : co_X10_most[2]? = some ((4, .invokevirtual 113, 696, 36, 1, 8, 0, 0, []) : xm_I) := rfl
theorem r_X10_most_3 : co_X10_most[3]? = some ((7, .ifCond .eq 6, 0, 0, 6, 0, 0, 0, []) : xm_I) := rfl
theorem r_X10_most_4 : co_X10_most[4]? = some ((10, .bipush (-2), 0, 0, 0, 0, (-2), 0, []) : xm_I) := rfl
theorem r_X10_most_5 : co_X10_most[5]? = some ((12, .ireturn, 0, 0, 0, 0, 0, 0, []) : xm_I) := rfl
theorem r_X10_most_6 : co_X10_most[6]? = some ((13, .aload_n 0, 0, 0, 0, 0, 0, 0, []) : xm_I) := rfl
theorem r_X10_most_7 : co_X10_most[7]? = some ((14, .invokevirtual 184, 937, 91, 1, 9, 0, 0, []) : xm_I) := rfl
theorem r_X10_most_8 : co_X10_most[8]? = some ((17, .iconst 0, 0, 0, 0, 0, 0, 0, []) : xm_I) := rfl
theorem r_X10_most_9 : co_X10_most[9]? = some ((18, .istore_n 1, 0, 0, 0, 0, 0, 0, []) : xm_I) := rfl
theorem r_X10_most_10 : co_X10_most[10]? = some ((19, .iconst 0, 0, 0, 0, 0, 0, 0, []) : xm_I) := rfl
theorem r_X10_most_11 : co_X10_most[11]? = some ((20, .istore_n 2, 0, 0, 0, 0, 0, 0, []) : xm_I) := rfl
theorem r_X10_most_12 : co_X10_most[12]? = some ((21, .iload_n 2, 0, 0, 0, 0, 0, 0, []) : xm_I) := rfl
theorem r_X10_most_13 : co_X10_most[13]? = some ((22, .aload_n 0, 0, 0, 0, 0, 0, 0, []) : xm_I) := rfl
theorem r_X10_most_14 : co_X10_most[14]? = some ((23, .getfield 43, 486, 9, 5, 2, 0, 0, []) : xm_I) := rfl
theorem r_X10_most_15 : co_X10_most[15]? = some ((26, .getfield 228, 355, 3, 14, 0, 0, 0, []) : xm_I) := rfl
theorem r_X10_most_16 : co_X10_most[16]? = some ((29, .if_icmp .ge 32, 0, 0, 30, 0, 0, 0, []) : xm_I) := rfl
theorem r_X10_most_17 : co_X10_most[17]? = some ((32, .iload_n 1, 0, 0, 0, 0, 0, 0, []) : xm_I) := rfl
theorem r_X10_most_18 : co_X10_most[18]? = some ((33, .aload_n 0, 0, 0, 0, 0, 0, 0, []) : xm_I) := rfl
theorem r_X10_most_19 : co_X10_most[19]? = some ((34, .getfield 19, 482, 9, 1, 2, 0, 0, []) : xm_I) := rfl
theorem r_X10_most_20 : co_X10_most[20]? = some ((37, .getfield 103, 305, 8, 0, 2, 0, 0, []) : xm_I) := rfl
theorem r_X10_most_21 : co_X10_most[21]? = some ((40, .aload_n 0, 0, 0, 0, 0, 0, 0, []) : xm_I) := rfl
theorem r_X10_most_22 : co_X10_most[22]? = some ((41, .getfield 43, 486, 9, 5, 2, 0, 0, []) : xm_I) := rfl
theorem r_X10_most_23 : co_X10_most[23]? = some ((44, .iload_n 2, 0, 0, 0, 0, 0, 0, []) : xm_I) := rfl
theorem r_X10_most_24 : co_X10_most[24]? = some ((45, .invokevirtual 229, 1034, 114, 2, 3, 0, 0, []) : xm_I) := rfl
theorem r_X10_most_25 : co_X10_most[25]? = some ((48, .invokevirtual 232, 719, 43, 2, 0, 0, 0, []) : xm_I) := rfl
theorem r_X10_most_26 : co_X10_most[26]? = some ((51, .invokestatic 235, 1038, 0, 0, 2, 0, 0, []) : xm_I) := rfl
theorem r_X10_most_27 : co_X10_most[27]? = some ((54, .istore_n 1, 0, 0, 0, 0, 0, 0, []) : xm_I) := rfl
theorem r_X10_most_28 : co_X10_most[28]? = some ((55, .iinc 2 1, 0, 0, 0, 0, 1, 0, []) : xm_I) := rfl
theorem r_X10_most_29 : co_X10_most[29]? = some ((58, .goto (-37), 0, 0, 12, 0, 0, 0, []) : xm_I) := rfl
theorem r_X10_most_30 : co_X10_most[30]? = some ((61, .iload_n 1, 0, 0, 0, 0, 0, 0, []) : xm_I) := rfl
theorem r_X10_most_31 : co_X10_most[31]? = some ((62, .ireturn, 0, 0, 0, 0, 0, 0, []) : xm_I) := rfl
theorem p_X10_most_0_0 {X : xm_X} {P : List xm_M} {d : Nat} {h : xm_H} {l0 : Nat} {v0 : Nat} {h1 : xm_H} {r1 : Int32} {h2 : xm_H} {ro : Option Value} {ho : xm_H} (q0 : X.1[l0]? = some (.inr 9)) (q1 : h.2.2 l0 1 = some v0) (q2 : xm_V X P d 36 [.ref v0] h (some (.int r1)) h1) (q3 : X.1[v0]? = some (.inr 8)) (q4 : r1 = (0 : Int32)) (q5 : xm_V X P d 91 [.ref l0] h1 none h2) (K : xm_E X P d co_X10_most 12 [some (.ref l0), some (.int (0 : Int32)), some (.int (0 : Int32))] [] h2 ro ho) : xm_E X P d co_X10_most 0 [some (.ref l0), none, none] [] h ro ho := by
  refine xm_E_s r_X10_most_0 rfl rfl ?_
  refine xm_E_s r_X10_most_1 rfl (xm_T_gr rfl q0 rfl rfl q1) ?_
  refine xm_E_cv [.ref v0] [] r_X10_most_2 rfl rfl (Nat.le_of_ble_eq_true rfl) (xm_rc q3 (by decide)) rfl q2 ?_
  refine xm_E_s r_X10_most_3 rfl rfl ?_
  refine xm_E_t q4 ?_
  refine xm_E_s r_X10_most_6 rfl rfl ?_
  refine xm_E_cv [.ref l0] [] r_X10_most_7 rfl rfl (Nat.le_of_ble_eq_true rfl) (xm_rc q0 (by decide)) rfl q5 ?_
  refine xm_E_s r_X10_most_8 rfl rfl ?_
  refine xm_E_s (ls1 := [some (.ref l0), some (.int (0 : Int32)), none]) r_X10_most_9 rfl rfl ?_
  refine xm_E_s r_X10_most_10 rfl rfl ?_
  refine xm_E_s (ls1 := [some (.ref l0), some (.int (0 : Int32)), some (.int (0 : Int32))]) r_X10_most_11 rfl rfl ?_
  exact K
theorem p_X10_most_0_1 {X : xm_X} {P : List xm_M} {d : Nat} {h : xm_H} {l0 : Nat} {v0 : Nat} {h1 : xm_H} {r1 : Int32} (q0 : X.1[l0]? = some (.inr 9)) (q1 : h.2.2 l0 1 = some v0) (q2 : xm_V X P d 36 [.ref v0] h (some (.int r1)) h1) (q3 : X.1[v0]? = some (.inr 8)) (q4 : ¬ (r1 = (0 : Int32))) : xm_E X P d co_X10_most 0 [some (.ref l0), none, none] [] h (some (.int (-2 : Int32))) h1 := by
  refine xm_E_s r_X10_most_0 rfl rfl ?_
  refine xm_E_s r_X10_most_1 rfl (xm_T_gr rfl q0 rfl rfl q1) ?_
  refine xm_E_cv [.ref v0] [] r_X10_most_2 rfl rfl (Nat.le_of_ble_eq_true rfl) (xm_rc q3 (by decide)) rfl q2 ?_
  refine xm_E_s r_X10_most_3 rfl rfl ?_
  refine xm_E_f q4 ?_
  refine xm_E_s r_X10_most_4 rfl rfl ?_
  exact xm_E_iret r_X10_most_5 rfl rfl
theorem p_X10_most_12_0 {X : xm_X} {P : List xm_M} {d : Nat} {h : xm_H} {l0 : Nat} {l1 : Int32} {l2 : Int32} {v0 : Nat} (q0 : X.1[l0]? = some (.inr 9)) (q1 : h.2.2 l0 5 = some v0) (q2 : X.1[v0]? = some (.inr 3)) (q3 : h.1 v0 14 ≤ l2) : xm_E X P d co_X10_most 12 [some (.ref l0), some (.int l1), some (.int l2)] [] h (some (.int l1)) h := by
  refine xm_E_s r_X10_most_12 rfl rfl ?_
  refine xm_E_s r_X10_most_13 rfl rfl ?_
  refine xm_E_s r_X10_most_14 rfl (xm_T_gr rfl q0 rfl rfl q1) ?_
  refine xm_E_s r_X10_most_15 rfl (xm_T_gi rfl q2 rfl (Or.inl rfl)) ?_
  refine xm_E_s r_X10_most_16 rfl rfl ?_
  refine xm_E_t q3 ?_
  refine xm_E_s r_X10_most_30 rfl rfl ?_
  exact xm_E_iret r_X10_most_31 rfl rfl
theorem p_X10_most_12_1 {X : xm_X} {P : List xm_M} {d : Nat} {h : xm_H} {l0 : Nat} {l1 : Int32} {l2 : Int32} {v0 : Nat} {v1 : Nat} {v2 : Nat} {h3 : xm_H} {r3 : Int32} {h4 : xm_H} {r4 : Int32} {ro : Option Value} {ho : xm_H} (q0 : X.1[l0]? = some (.inr 9)) (q1 : h.2.2 l0 5 = some v0) (q2 : X.1[v0]? = some (.inr 3)) (q3 : ¬ (h.1 v0 14 ≤ l2)) (q4 : h.2.2 l0 1 = some v1) (q5 : X.1[v1]? = some (.inr 8)) (q6 : h.2.2 v1 0 = some v2) (q7 : xm_V X P d 114 [.ref v0, .int l2] h (some (.int r3)) h3) (q8 : xm_V X P d 43 [.ref v2, .int r3] h3 (some (.int r4)) h4) (q9 : X.1[v2]? = some (.inr 0)) (K : xm_E X P d co_X10_most 12 [some (.ref l0), some (.int (if l1 < r4 then r4 else l1)), some (.int (l2 + (1 : Int32)))] [] h4 ro ho) : xm_E X P d co_X10_most 12 [some (.ref l0), some (.int l1), some (.int l2)] [] h ro ho := by
  refine xm_E_s r_X10_most_12 rfl rfl ?_
  refine xm_E_s r_X10_most_13 rfl rfl ?_
  refine xm_E_s r_X10_most_14 rfl (xm_T_gr rfl q0 rfl rfl q1) ?_
  refine xm_E_s r_X10_most_15 rfl (xm_T_gi rfl q2 rfl (Or.inl rfl)) ?_
  refine xm_E_s r_X10_most_16 rfl rfl ?_
  refine xm_E_f q3 ?_
  refine xm_E_s r_X10_most_17 rfl rfl ?_
  refine xm_E_s r_X10_most_18 rfl rfl ?_
  refine xm_E_s r_X10_most_19 rfl (xm_T_gr rfl q0 rfl rfl q4) ?_
  refine xm_E_s r_X10_most_20 rfl (xm_T_gr rfl q5 rfl rfl q6) ?_
  refine xm_E_s r_X10_most_21 rfl rfl ?_
  refine xm_E_s r_X10_most_22 rfl (xm_T_gr rfl q0 rfl rfl q1) ?_
  refine xm_E_s r_X10_most_23 rfl rfl ?_
  refine xm_E_cv [.ref v0, .int l2] [.ref v2, .int l1] r_X10_most_24 rfl rfl (Nat.le_of_ble_eq_true rfl) (xm_rc q2 (by decide)) rfl q7 ?_
  refine xm_E_cv [.ref v2, .int r3] [.int l1] r_X10_most_25 rfl rfl (Nat.le_of_ble_eq_true rfl) (xm_rc q9 (by decide)) rfl q8 ?_
  refine xm_E_s r_X10_most_26 rfl rfl ?_
  refine xm_E_s (ls1 := [some (.ref l0), some (.int (if l1 < r4 then r4 else l1)), some (.int l2)]) r_X10_most_27 rfl rfl ?_
  refine xm_E_s (ls1 := [some (.ref l0), some (.int (if l1 < r4 then r4 else l1)), some (.int (l2 + (1 : Int32)))]) r_X10_most_28 rfl rfl ?_
  refine xm_E_s r_X10_most_29 rfl rfl ?_
  exact K
theorem r_X10_ways_0 : co_X10_ways[0]? = some ((0, .aload_n 0, 0, 0, 0, 0, 0, 0, []) : xm_I) := rfl
theorem r_X10_ways_1 : co_X10_ways[1]? = some ((1, .getfield 19, 482, 9, 1, 2, 0, 0, []) : xm_I) := rfl
theorem r_X10_ways_2 : co_X10_ways[2]? = some ((4, .invokevirtual 113, 696, 36, 1, 8, 0, 0, []) : xm_I) := rfl
theorem r_X10_ways_3 : co_X10_ways[3]? = some ((7, .ifCond .ne 10, 0, 0, 7, 0, 0, 0, []) : xm_I) := rfl
theorem r_X10_ways_4 : co_X10_ways[4]? = some ((10, .iload_n 1, 0, 0, 0, 0, 0, 0, []) : xm_I) := rfl
theorem r_X10_ways_5 : co_X10_ways[5]? = some ((11, .invokestatic 240, 1045, 116, 1, 0, 0, 0, []) : xm_I) := rfl
theorem r_X10_ways_6 : co_X10_ways[6]? = some ((14, .ifCond .ne 7, 0, 0, 9, 0, 0, 0, []) : xm_I) := rfl
theorem r_X10_ways_7 : co_X10_ways[7]? = some ((17, .ldc2_w 243, 1048, 0, 0, 0, 0, (-2), []) : xm_I) := rfl
theorem r_X10_ways_8 : co_X10_ways[8]? = some ((20, .lreturn, 0, 0, 0, 0, 0, 0, []) : xm_I) := rfl
theorem r_X10_ways_9 : co_X10_ways[9]? = some ((21, .aload_n 0, 0, 0, 0, 0, 0, 0, []) : xm_I) := rfl
theorem r_X10_ways_10 : co_X10_ways[10]? = some ((22, .invokevirtual 245, 1049, 117, 1, 9, 0, 0, []) : xm_I) := rfl
theorem r_X10_ways_11 : co_X10_ways[11]? = some ((25, .aload_n 0, 0, 0, 0, 0, 0, 0, []) : xm_I) := rfl
theorem r_X10_ways_12 : co_X10_ways[12]? = some ((26, .getfield 43, 486, 9, 5, 2, 0, 0, []) : xm_I) := rfl
theorem r_X10_ways_13 : co_X10_ways[13]? = some ((29, .aload_n 0, 0, 0, 0, 0, 0, 0, []) : xm_I) := rfl
theorem r_X10_ways_14 : co_X10_ways[14]? = some ((30, .getfield 19, 482, 9, 1, 2, 0, 0, []) : xm_I) := rfl
theorem r_X10_ways_15 : co_X10_ways[15]? = some ((33, .getfield 116, 311, 8, 3, 0, 0, 0, []) : xm_I) := rfl
theorem r_X10_ways_16 : co_X10_ways[16]? = some ((36, .iload_n 1, 0, 0, 0, 0, 0, 0, []) : xm_I) := rfl
theorem r_X10_ways_17 : co_X10_ways[17]? = some ((37, .invokevirtual 248, 1054, 118, 3, 3, 0, 0, []) : xm_I) := rfl
theorem r_X10_ways_18 : co_X10_ways[18]? = some ((40, .lreturn, 0, 0, 0, 0, 0, 0, []) : xm_I) := rfl
theorem p_X10_ways_0_0 {X : xm_X} {P : List xm_M} {d : Nat} {h : xm_H} {l0 : Nat} {l1 : Int32} {v0 : Nat} {h1 : xm_H} {r1 : Int32} {h2 : xm_H} {r2 : Int32} (q0 : X.1[l0]? = some (.inr 9)) (q1 : h.2.2 l0 1 = some v0) (q2 : xm_V X P d 36 [.ref v0] h (some (.int r1)) h1) (q3 : X.1[v0]? = some (.inr 8)) (q4 : r1 = (0 : Int32)) (q5 : xm_V X P d 116 [.int l1] h1 (some (.int r2)) h2) (q6 : r2 = (0 : Int32)) : xm_E X P d co_X10_ways 0 [some (.ref l0), some (.int l1)] [] h (some (.long (-2 : Int64))) h2 := by
  refine xm_E_s r_X10_ways_0 rfl rfl ?_
  refine xm_E_s r_X10_ways_1 rfl (xm_T_gr rfl q0 rfl rfl q1) ?_
  refine xm_E_cv [.ref v0] [] r_X10_ways_2 rfl rfl (Nat.le_of_ble_eq_true rfl) (xm_rc q3 (by decide)) rfl q2 ?_
  refine xm_E_s r_X10_ways_3 rfl rfl ?_
  refine xm_E_t q4 ?_
  refine xm_E_s r_X10_ways_4 rfl rfl ?_
  refine xm_E_cs [.int l1] [] r_X10_ways_5 rfl rfl rfl (Nat.le_of_ble_eq_true rfl) rfl q5 ?_
  refine xm_E_s r_X10_ways_6 rfl rfl ?_
  refine xm_E_t q6 ?_
  refine xm_E_s r_X10_ways_7 rfl rfl ?_
  exact xm_E_lret r_X10_ways_8 rfl
theorem p_X10_ways_0_1 {X : xm_X} {P : List xm_M} {d : Nat} {h : xm_H} {l0 : Nat} {l1 : Int32} {v0 : Nat} {h1 : xm_H} {r1 : Int32} {h2 : xm_H} {r2 : Int32} {h3 : xm_H} {v4 : Nat} {v5 : Nat} {h6 : xm_H} {r6 : Int64} (q0 : X.1[l0]? = some (.inr 9)) (q1 : h.2.2 l0 1 = some v0) (q2 : xm_V X P d 36 [.ref v0] h (some (.int r1)) h1) (q3 : X.1[v0]? = some (.inr 8)) (q4 : r1 = (0 : Int32)) (q5 : xm_V X P d 116 [.int l1] h1 (some (.int r2)) h2) (q6 : ¬ (r2 = (0 : Int32))) (q7 : xm_V X P d 117 [.ref l0] h2 none h3) (q8 : h3.2.2 l0 5 = some v4) (q9 : h3.2.2 l0 1 = some v5) (q10 : X.1[v5]? = some (.inr 8)) (q11 : xm_V X P d 118 [.ref v4, .int (h3.1 v5 3), .int l1] h3 (some (.long r6)) h6) (q12 : X.1[v4]? = some (.inr 3)) : xm_E X P d co_X10_ways 0 [some (.ref l0), some (.int l1)] [] h (some (.long r6)) h6 := by
  refine xm_E_s r_X10_ways_0 rfl rfl ?_
  refine xm_E_s r_X10_ways_1 rfl (xm_T_gr rfl q0 rfl rfl q1) ?_
  refine xm_E_cv [.ref v0] [] r_X10_ways_2 rfl rfl (Nat.le_of_ble_eq_true rfl) (xm_rc q3 (by decide)) rfl q2 ?_
  refine xm_E_s r_X10_ways_3 rfl rfl ?_
  refine xm_E_t q4 ?_
  refine xm_E_s r_X10_ways_4 rfl rfl ?_
  refine xm_E_cs [.int l1] [] r_X10_ways_5 rfl rfl rfl (Nat.le_of_ble_eq_true rfl) rfl q5 ?_
  refine xm_E_s r_X10_ways_6 rfl rfl ?_
  refine xm_E_f q6 ?_
  refine xm_E_s r_X10_ways_9 rfl rfl ?_
  refine xm_E_cv [.ref l0] [] r_X10_ways_10 rfl rfl (Nat.le_of_ble_eq_true rfl) (xm_rc q0 (by decide)) rfl q7 ?_
  refine xm_E_s r_X10_ways_11 rfl rfl ?_
  refine xm_E_s r_X10_ways_12 rfl (xm_T_gr rfl q0 rfl rfl q8) ?_
  refine xm_E_s r_X10_ways_13 rfl rfl ?_
  refine xm_E_s r_X10_ways_14 rfl (xm_T_gr rfl q0 rfl rfl q9) ?_
  refine xm_E_s r_X10_ways_15 rfl (xm_T_gi rfl q10 rfl (Or.inl rfl)) ?_
  refine xm_E_s r_X10_ways_16 rfl rfl ?_
  refine xm_E_cv [.ref v4, .int (h3.1 v5 3), .int l1] [] r_X10_ways_17 rfl rfl (Nat.le_of_ble_eq_true rfl) (xm_rc q12 (by decide)) rfl q11 ?_
  exact xm_E_lret r_X10_ways_18 rfl
theorem p_X10_ways_0_2 {X : xm_X} {P : List xm_M} {d : Nat} {h : xm_H} {l0 : Nat} {l1 : Int32} {v0 : Nat} {h1 : xm_H} {r1 : Int32} (q0 : X.1[l0]? = some (.inr 9)) (q1 : h.2.2 l0 1 = some v0) (q2 : xm_V X P d 36 [.ref v0] h (some (.int r1)) h1) (q3 : X.1[v0]? = some (.inr 8)) (q4 : ¬ (r1 = (0 : Int32))) : xm_E X P d co_X10_ways 0 [some (.ref l0), some (.int l1)] [] h (some (.long (-2 : Int64))) h1 := by
  refine xm_E_s r_X10_ways_0 rfl rfl ?_
  refine xm_E_s r_X10_ways_1 rfl (xm_T_gr rfl q0 rfl rfl q1) ?_
  refine xm_E_cv [.ref v0] [] r_X10_ways_2 rfl rfl (Nat.le_of_ble_eq_true rfl) (xm_rc q3 (by decide)) rfl q2 ?_
  refine xm_E_s r_X10_ways_3 rfl rfl ?_
  refine xm_E_f q4 ?_
  refine xm_E_s r_X10_ways_7 rfl rfl ?_
  exact xm_E_lret r_X10_ways_8 rfl
theorem r_X10_isWaysLength_0 : co_X10_isWaysLength[0]? = some ((0, .iload_n 0, 0, 0, 0, 0, 0, 0, []) : xm_I) := rfl
theorem r_X10_isWaysLength_1 : co_X10_isWaysLength[1]? = some ((1, .ifCond .lt 13, 0, 0, 7, 0, 0, 0, []) : xm_I) := rfl
theorem r_X10_isWaysLength_2 : co_X10_isWaysLength[2]? = some ((4, .iload_n 0, 0, 0, 0, 0, 0, 0, []) : xm_I) := rfl
theorem r_X10_isWaysLength_3 : co_X10_isWaysLength[3]? = some ((5, .bipush 12, 0, 0, 0, 0, 12, 0, []) : xm_I) := rfl
theorem r_X10_isWaysLength_4 : co_X10_isWaysLength[4]? = some ((7, .if_icmp .gt 7, 0, 0, 7, 0, 0, 0, []) : xm_I) := rfl
theorem r_X10_isWaysLength_5 : co_X10_isWaysLength[5]? = some ((10, .iconst 1, 0, 0, 0, 0, 1, 0, []) : xm_I) := rfl
theorem r_X10_isWaysLength_6 : co_X10_isWaysLength[6]? = some ((11, .goto 4, 0, 0, 8, 0, 0, 0, []) : xm_I) := rfl
theorem r_X10_isWaysLength_7 : co_X10_isWaysLength[7]? = some ((14, .iconst 0, 0, 0, 0, 0, 0, 0, []) : xm_I) := rfl
theorem r_X10_isWaysLength_8 : co_X10_isWaysLength[8]? = some ((15, .ireturn, 0, 0, 0, 3, 0, 0, []) : xm_I) := rfl
theorem p_X10_isWaysLength_0_0 {X : xm_X} {P : List xm_M} {d : Nat} {h : xm_H} {l0 : Int32} (q0 : l0 < (0 : Int32)) : xm_E X P d co_X10_isWaysLength 0 [some (.int l0)] [] h (some (.int (0 : Int32))) h := by
  refine xm_E_s r_X10_isWaysLength_0 rfl rfl ?_
  refine xm_E_s r_X10_isWaysLength_1 rfl rfl ?_
  refine xm_E_t q0 ?_
  refine xm_E_s r_X10_isWaysLength_7 rfl rfl ?_
  exact xm_E_iret r_X10_isWaysLength_8 rfl rfl
theorem p_X10_isWaysLength_0_1 {X : xm_X} {P : List xm_M} {d : Nat} {h : xm_H} {l0 : Int32} (q0 : ¬ (l0 < (0 : Int32))) (q1 : (12 : Int32) < l0) : xm_E X P d co_X10_isWaysLength 0 [some (.int l0)] [] h (some (.int (0 : Int32))) h := by
  refine xm_E_s r_X10_isWaysLength_0 rfl rfl ?_
  refine xm_E_s r_X10_isWaysLength_1 rfl rfl ?_
  refine xm_E_f q0 ?_
  refine xm_E_s r_X10_isWaysLength_2 rfl rfl ?_
  refine xm_E_s r_X10_isWaysLength_3 rfl rfl ?_
  refine xm_E_s r_X10_isWaysLength_4 rfl rfl ?_
  refine xm_E_t q1 ?_
  refine xm_E_s r_X10_isWaysLength_7 rfl rfl ?_
  exact xm_E_iret r_X10_isWaysLength_8 rfl rfl
theorem p_X10_isWaysLength_0_2 {X : xm_X} {P : List xm_M} {d : Nat} {h : xm_H} {l0 : Int32} (q0 : ¬ (l0 < (0 : Int32))) (q1 : ¬ ((12 : Int32) < l0)) : xm_E X P d co_X10_isWaysLength 0 [some (.int l0)] [] h (some (.int (1 : Int32))) h := by
  refine xm_E_s r_X10_isWaysLength_0 rfl rfl ?_
  refine xm_E_s r_X10_isWaysLength_1 rfl rfl ?_
  refine xm_E_f q0 ?_
  refine xm_E_s r_X10_isWaysLength_2 rfl rfl ?_
  refine xm_E_s r_X10_isWaysLength_3 rfl rfl ?_
  refine xm_E_s r_X10_isWaysLength_4 rfl rfl ?_
  refine xm_E_f q1 ?_
  refine xm_E_s r_X10_isWaysLength_5 rfl rfl ?_
  refine xm_E_s r_X10_isWaysLength_6 rfl rfl ?_
  exact xm_E_iret r_X10_isWaysLength_8 rfl rfl
theorem r_X10_exploreFromFirst_0 : co_X10_exploreFromFirst[0]? = some ((0, .aload_n 0, 0, 0, 0, 0, 0, 0, []) : xm_I) := rfl
theorem r_X10_exploreFromFirst_1 : co_X10_exploreFromFirst[1]? = some ((1, .getfield 43, 486, 9, 5, 2, 0, 0, []) : xm_I) := rfl
theorem r_X10_exploreFromFirst_2 : co_X10_exploreFromFirst[2]? = some ((4, .aload_n 0, 0, 0, 0, 0, 0, 0, []) : xm_I) := rfl
theorem r_X10_exploreFromFirst_3 : co_X10_exploreFromFirst[3]? = some ((5, .getfield 19, 482, 9, 1, 2, 0, 0, []) : xm_I) := rfl
theorem r_X10_exploreFromFirst_4 : co_X10_exploreFromFirst[4]? = some ((8, .getfield 103, 305, 8, 0, 2, 0, 0, []) : xm_I) := rfl
theorem r_X10_exploreFromFirst_5 : co_X10_exploreFromFirst[5]? = some ((11, .invokevirtual 424, 1053, 32, 1, 0, 0, 0, []) : xm_I) := rfl
theorem r_X10_exploreFromFirst_6 : co_X10_exploreFromFirst[6]? = some ((14, .sipush 1023, 0, 0, 0, 0, 1023, 0, []) : xm_I) := rfl
theorem r_X10_exploreFromFirst_7 : co_X10_exploreFromFirst[7]? = some ((17, .aload_n 0, 0, 0, 0, 0, 0, 0, []) : xm_I) := rfl
theorem r_X10_exploreFromFirst_8 : co_X10_exploreFromFirst[8]? = some ((18, .getfield 19, 482, 9, 1, 2, 0, 0, []) : xm_I) := rfl
theorem r_X10_exploreFromFirst_9 : co_X10_exploreFromFirst[9]? = some ((21, .getfield 103, 305, 8, 0, 2, 0, 0, []) : xm_I) := rfl
theorem r_X10_exploreFromFirst_10 : co_X10_exploreFromFirst[10]? = some ((24, .getfield 130, 219, 0, 4, 0, 0, 0, []) : xm_I) := rfl
theorem r_X10_exploreFromFirst_11 : co_X10_exploreFromFirst[11]? = some ((27, .bipush 60, 0, 0, 0, 0, 60, 0, []) : xm_I) := rfl
theorem r_X10_exploreFromFirst_12 : co_X10_exploreFromFirst[12]? = some ((29, .invokevirtual 420, 885, 81, 5, 3, 0, 0, []) : xm_I) := rfl
theorem r_X10_exploreFromFirst_13 : co_X10_exploreFromFirst[13]? = some ((32, .return_, 0, 0, 0, 0, 0, 0, []) : xm_I) := rfl
theorem p_X10_exploreFromFirst_0_0 {X : xm_X} {P : List xm_M} {d : Nat} {h : xm_H} {l0 : Nat} {v0 : Nat} {v1 : Nat} {v2 : Nat} {h3 : xm_H} {r3 : Int32} {v4 : Nat} {v5 : Nat} {h6 : xm_H} (q0 : X.1[l0]? = some (.inr 9)) (q1 : h.2.2 l0 5 = some v0) (q2 : h.2.2 l0 1 = some v1) (q3 : X.1[v1]? = some (.inr 8)) (q4 : h.2.2 v1 0 = some v2) (q5 : xm_V X P d 32 [.ref v2] h (some (.int r3)) h3) (q6 : X.1[v2]? = some (.inr 0)) (q7 : h3.2.2 l0 1 = some v4) (q8 : X.1[v4]? = some (.inr 8)) (q9 : h3.2.2 v4 0 = some v5) (q10 : X.1[v5]? = some (.inr 0)) (q11 : xm_V X P d 81 [.ref v0, .int r3, .int (1023 : Int32), .int (h3.1 v5 4), .int (60 : Int32)] h3 none h6) (q12 : X.1[v0]? = some (.inr 3)) : xm_E X P d co_X10_exploreFromFirst 0 [some (.ref l0)] [] h none h6 := by
  refine xm_E_s r_X10_exploreFromFirst_0 rfl rfl ?_
  refine xm_E_s r_X10_exploreFromFirst_1 rfl (xm_T_gr rfl q0 rfl rfl q1) ?_
  refine xm_E_s r_X10_exploreFromFirst_2 rfl rfl ?_
  refine xm_E_s r_X10_exploreFromFirst_3 rfl (xm_T_gr rfl q0 rfl rfl q2) ?_
  refine xm_E_s r_X10_exploreFromFirst_4 rfl (xm_T_gr rfl q3 rfl rfl q4) ?_
  refine xm_E_cv [.ref v2] [.ref v0] r_X10_exploreFromFirst_5 rfl rfl (Nat.le_of_ble_eq_true rfl) (xm_rc q6 (by decide)) rfl q5 ?_
  refine xm_E_s r_X10_exploreFromFirst_6 rfl rfl ?_
  refine xm_E_s r_X10_exploreFromFirst_7 rfl rfl ?_
  refine xm_E_s r_X10_exploreFromFirst_8 rfl (xm_T_gr rfl q0 rfl rfl q7) ?_
  refine xm_E_s r_X10_exploreFromFirst_9 rfl (xm_T_gr rfl q8 rfl rfl q9) ?_
  refine xm_E_s r_X10_exploreFromFirst_10 rfl (xm_T_gi rfl q10 rfl (Or.inl rfl)) ?_
  refine xm_E_s r_X10_exploreFromFirst_11 rfl rfl ?_
  refine xm_E_cv [.ref v0, .int r3, .int (1023 : Int32), .int (h3.1 v5 4), .int (60 : Int32)] [] r_X10_exploreFromFirst_12 rfl rfl (Nat.le_of_ble_eq_true rfl) (xm_rc q12 (by decide)) rfl q11 ?_
  exact xm_E_ret r_X10_exploreFromFirst_13 rfl
theorem r_X10_how_0 : co_X10_how[0]? = some ((0, .aload_n 0, 0, 0, 0, 0, 0, 0, []) : xm_I) := rfl
theorem r_X10_how_1 : co_X10_how[1]? = some ((1, .getfield 19, 482, 9, 1, 2, 0, 0, []) : xm_I) := rfl
theorem r_X10_how_2 : co_X10_how[2]? = some ((4, .invokevirtual 113, 696, 36, 1, 8, 0, 0, []) : xm_I) := rfl
theorem r_X10_how_3 : co_X10_how[3]? = some ((7, .ifCond .ne 10, 0, 0, 7, 0, 0, 0, []) : xm_I) := rfl
theorem r_X10_how_4 : co_X10_how[4]? = some ((10, .iload_n 1, 0, 0, 0, 0, 0, 0, []) : xm_I) := rfl
theorem r_X10_how_5 : co_X10_how[5]? = some ((11, .invokestatic 240, 1045, 116, 1, 0, 0, 0, []) : xm_I) := rfl
theorem r_X10_how_6 : co_X10_how[6]? = some ((14, .ifCond .ne 6, 0, 0, 9, 0, 0, 0, []) : xm_I) := rfl
theorem r_X10_how_7 : co_X10_how[7]? = some ((17, .bipush (-2), 0, 0, 0, 0, (-2), 0, []) : xm_I) := rfl
theorem r_X10_how_8 : co_X10_how[8]? = some ((19, .ireturn, 0, 0, 0, 0, 0, 0, []) : xm_I) := rfl
theorem r_X10_how_9 : co_X10_how[9]? = some ((20, .aload_n 0, 0, 0, 0, 0, 0, 0, []) : xm_I) := rfl
theorem r_X10_how_10 : co_X10_how[10]? = some ((21, .invokevirtual 245, 1049, 117, 1, 9, 0, 0, []) : xm_I) := rfl
theorem r_X10_how_11 : co_X10_how[11]? = some ((24, .aload_n 0, 0, 0, 0, 0, 0, 0, []) : xm_I) := rfl
theorem r_X10_how_12 : co_X10_how[12]? = some ((25, .getfield 43, 486, 9, 5, 2, 0, 0, []) : xm_I) := rfl
theorem r_X10_how_13 : co_X10_how[13]? = some ((28, .aload_n 0, 0, 0, 0, 0, 0, 0, []) : xm_I) := rfl
theorem r_X10_how_14 : co_X10_how[14]? = some ((29, .getfield 19, 482, 9, 1, 2, 0, 0, []) : xm_I) := rfl
theorem r_X10_how_15 : co_X10_how[15]? = some ((32, .getfield 116, 311, 8, 3, 0, 0, 0, []) : xm_I) := rfl
theorem r_X10_how_16 : co_X10_how[16]? = some ((35, .iload_n 1, 0, 0, 0, 0, 0, 0, []) : xm_I) := rfl
theorem r_X10_how_17 : co_X10_how[17]? = some ((36, .iload_n 2, 0, 0, 0, 0, 0, 0, []) : xm_I) := rfl
theorem r_X10_how_18 : co_X10_how[18]? = some ((37, .invokevirtual 252, 1069, 121, 4, 3, 0, 0, []) : xm_I) := rfl
theorem r_X10_how_19 : co_X10_how[19]? = some ((40, .ireturn, 0, 0, 0, 0, 0, 0, []) : xm_I) := rfl
theorem p_X10_how_0_0 {X : xm_X} {P : List xm_M} {d : Nat} {h : xm_H} {l0 : Nat} {l1 : Int32} {l2 : Int32} {v0 : Nat} {h1 : xm_H} {r1 : Int32} {h2 : xm_H} {r2 : Int32} (q0 : X.1[l0]? = some (.inr 9)) (q1 : h.2.2 l0 1 = some v0) (q2 : xm_V X P d 36 [.ref v0] h (some (.int r1)) h1) (q3 : X.1[v0]? = some (.inr 8)) (q4 : r1 = (0 : Int32)) (q5 : xm_V X P d 116 [.int l1] h1 (some (.int r2)) h2) (q6 : r2 = (0 : Int32)) : xm_E X P d co_X10_how 0 [some (.ref l0), some (.int l1), some (.int l2)] [] h (some (.int (-2 : Int32))) h2 := by
  refine xm_E_s r_X10_how_0 rfl rfl ?_
  refine xm_E_s r_X10_how_1 rfl (xm_T_gr rfl q0 rfl rfl q1) ?_
  refine xm_E_cv [.ref v0] [] r_X10_how_2 rfl rfl (Nat.le_of_ble_eq_true rfl) (xm_rc q3 (by decide)) rfl q2 ?_
  refine xm_E_s r_X10_how_3 rfl rfl ?_
  refine xm_E_t q4 ?_
  refine xm_E_s r_X10_how_4 rfl rfl ?_
  refine xm_E_cs [.int l1] [] r_X10_how_5 rfl rfl rfl (Nat.le_of_ble_eq_true rfl) rfl q5 ?_
  refine xm_E_s r_X10_how_6 rfl rfl ?_
  refine xm_E_t q6 ?_
  refine xm_E_s r_X10_how_7 rfl rfl ?_
  exact xm_E_iret r_X10_how_8 rfl rfl
theorem p_X10_how_0_1 {X : xm_X} {P : List xm_M} {d : Nat} {h : xm_H} {l0 : Nat} {l1 : Int32} {l2 : Int32} {v0 : Nat} {h1 : xm_H} {r1 : Int32} {h2 : xm_H} {r2 : Int32} {h3 : xm_H} {v4 : Nat} {v5 : Nat} {h6 : xm_H} {r6 : Int32} (q0 : X.1[l0]? = some (.inr 9)) (q1 : h.2.2 l0 1 = some v0) (q2 : xm_V X P d 36 [.ref v0] h (some (.int r1)) h1) (q3 : X.1[v0]? = some (.inr 8)) (q4 : r1 = (0 : Int32)) (q5 : xm_V X P d 116 [.int l1] h1 (some (.int r2)) h2) (q6 : ¬ (r2 = (0 : Int32))) (q7 : xm_V X P d 117 [.ref l0] h2 none h3) (q8 : h3.2.2 l0 5 = some v4) (q9 : h3.2.2 l0 1 = some v5) (q10 : X.1[v5]? = some (.inr 8)) (q11 : xm_V X P d 121 [.ref v4, .int (h3.1 v5 3), .int l1, .int l2] h3 (some (.int r6)) h6) (q12 : X.1[v4]? = some (.inr 3)) : xm_E X P d co_X10_how 0 [some (.ref l0), some (.int l1), some (.int l2)] [] h (some (.int r6)) h6 := by
  refine xm_E_s r_X10_how_0 rfl rfl ?_
  refine xm_E_s r_X10_how_1 rfl (xm_T_gr rfl q0 rfl rfl q1) ?_
  refine xm_E_cv [.ref v0] [] r_X10_how_2 rfl rfl (Nat.le_of_ble_eq_true rfl) (xm_rc q3 (by decide)) rfl q2 ?_
  refine xm_E_s r_X10_how_3 rfl rfl ?_
  refine xm_E_t q4 ?_
  refine xm_E_s r_X10_how_4 rfl rfl ?_
  refine xm_E_cs [.int l1] [] r_X10_how_5 rfl rfl rfl (Nat.le_of_ble_eq_true rfl) rfl q5 ?_
  refine xm_E_s r_X10_how_6 rfl rfl ?_
  refine xm_E_f q6 ?_
  refine xm_E_s r_X10_how_9 rfl rfl ?_
  refine xm_E_cv [.ref l0] [] r_X10_how_10 rfl rfl (Nat.le_of_ble_eq_true rfl) (xm_rc q0 (by decide)) rfl q7 ?_
  refine xm_E_s r_X10_how_11 rfl rfl ?_
  refine xm_E_s r_X10_how_12 rfl (xm_T_gr rfl q0 rfl rfl q8) ?_
  refine xm_E_s r_X10_how_13 rfl rfl ?_
  refine xm_E_s r_X10_how_14 rfl (xm_T_gr rfl q0 rfl rfl q9) ?_
  refine xm_E_s r_X10_how_15 rfl (xm_T_gi rfl q10 rfl (Or.inl rfl)) ?_
  refine xm_E_s r_X10_how_16 rfl rfl ?_
  refine xm_E_s r_X10_how_17 rfl rfl ?_
  refine xm_E_cv [.ref v4, .int (h3.1 v5 3), .int l1, .int l2] [] r_X10_how_18 rfl rfl (Nat.le_of_ble_eq_true rfl) (xm_rc q12 (by decide)) rfl q11 ?_
  exact xm_E_iret r_X10_how_19 rfl rfl
theorem p_X10_how_0_2 {X : xm_X} {P : List xm_M} {d : Nat} {h : xm_H} {l0 : Nat} {l1 : Int32} {l2 : Int32} {v0 : Nat} {h1 : xm_H} {r1 : Int32} (q0 : X.1[l0]? = some (.inr 9)) (q1 : h.2.2 l0 1 = some v0) (q2 : xm_V X P d 36 [.ref v0] h (some (.int r1)) h1) (q3 : X.1[v0]? = some (.inr 8)) (q4 : ¬ (r1 = (0 : Int32))) : xm_E X P d co_X10_how 0 [some (.ref l0), some (.int l1), some (.int l2)] [] h (some (.int (-2 : Int32))) h1 := by
  refine xm_E_s r_X10_how_0 rfl rfl ?_
  refine xm_E_s r_X10_how_1 rfl (xm_T_gr rfl q0 rfl rfl q1) ?_
  refine xm_E_cv [.ref v0] [] r_X10_how_2 rfl rfl (Nat.le_of_ble_eq_true rfl) (xm_rc q3 (by decide)) rfl q2 ?_
  refine xm_E_s r_X10_how_3 rfl rfl ?_
  refine xm_E_f q4 ?_
  refine xm_E_s r_X10_how_7 rfl rfl ?_
  exact xm_E_iret r_X10_how_8 rfl rfl
theorem r_X10_means_0 : co_X10_means[0]? = some ((0, .aload_n 0, 0, 0, 0, 0, 0, 0, []) : xm_I) := rfl
theorem r_X10_means_1 : co_X10_means[1]? = some ((1, .iload_n 1, 0, 0, 0, 0, 0, 0, []) : xm_I) := rfl
theorem r_X10_means_2 : co_X10_means[2]? = some ((2, .invokevirtual 146, 781, 56, 2, 9, 0, 0, []) : xm_I) := rfl
theorem r_X10_means_3 : co_X10_means[3]? = some ((5, .ifCond .eq 17, 0, 0, 10, 0, 0, 0, []) : xm_I) := rfl
theorem r_X10_means_4 : co_X10_means[4]? = some ((8, .aload_n 0, 0, 0, 0, 0, 0, 0, []) : xm_I) := rfl
theorem r_X10_means_5 : co_X10_means[5]? = some ((9, .getfield 19, 482, 9, 1, 2, 0, 0, []) : xm_I) := rfl
theorem r_X10_means_6 : co_X10_means[6]? = some ((12, .getfield 103, 305, 8, 0, 2, 0, 0, []) : xm_I) := rfl
theorem r_X10_means_7 : co_X10_means[7]? = some ((15, .iload_n 1, 0, 0, 0, 0, 0, 0, []) : xm_I) := rfl
theorem r_X10_means_8 : co_X10_means[8]? = some ((16, .invokevirtual 149, 785, 57, 2, 0, 0, 0, []) : xm_I) := rfl
theorem r_X10_means_9 : co_X10_means[9]? = some ((19, .goto 5, 0, 0, 11, 0, 0, 0, []) : xm_I) := rfl
theorem r_X10_means_10 : co_X10_means[10]? = some ((22, .bipush (-2), 0, 0, 0, 0, (-2), 0, []) : xm_I) := rfl
theorem r_X10_means_11 : co_X10_means[11]? = some ((24, .ireturn, 0, 0, 0, 0, 0, 0, []) : xm_I) := rfl
theorem p_X10_means_0_0 {X : xm_X} {P : List xm_M} {d : Nat} {h : xm_H} {l0 : Nat} {l1 : Int32} {h0 : xm_H} {r0 : Int32} (q0 : xm_V X P d 56 [.ref l0, .int l1] h (some (.int r0)) h0) (q1 : X.1[l0]? = some (.inr 9)) (q2 : r0 = (0 : Int32)) : xm_E X P d co_X10_means 0 [some (.ref l0), some (.int l1)] [] h (some (.int (-2 : Int32))) h0 := by
  refine xm_E_s r_X10_means_0 rfl rfl ?_
  refine xm_E_s r_X10_means_1 rfl rfl ?_
  refine xm_E_cv [.ref l0, .int l1] [] r_X10_means_2 rfl rfl (Nat.le_of_ble_eq_true rfl) (xm_rc q1 (by decide)) rfl q0 ?_
  refine xm_E_s r_X10_means_3 rfl rfl ?_
  refine xm_E_t q2 ?_
  refine xm_E_s r_X10_means_10 rfl rfl ?_
  exact xm_E_iret r_X10_means_11 rfl rfl
theorem p_X10_means_0_1 {X : xm_X} {P : List xm_M} {d : Nat} {h : xm_H} {l0 : Nat} {l1 : Int32} {h0 : xm_H} {r0 : Int32} {v1 : Nat} {v2 : Nat} {h3 : xm_H} {r3 : Int32} (q0 : xm_V X P d 56 [.ref l0, .int l1] h (some (.int r0)) h0) (q1 : X.1[l0]? = some (.inr 9)) (q2 : ¬ (r0 = (0 : Int32))) (q3 : h0.2.2 l0 1 = some v1) (q4 : X.1[v1]? = some (.inr 8)) (q5 : h0.2.2 v1 0 = some v2) (q6 : xm_V X P d 57 [.ref v2, .int l1] h0 (some (.int r3)) h3) (q7 : X.1[v2]? = some (.inr 0)) : xm_E X P d co_X10_means 0 [some (.ref l0), some (.int l1)] [] h (some (.int r3)) h3 := by
  refine xm_E_s r_X10_means_0 rfl rfl ?_
  refine xm_E_s r_X10_means_1 rfl rfl ?_
  refine xm_E_cv [.ref l0, .int l1] [] r_X10_means_2 rfl rfl (Nat.le_of_ble_eq_true rfl) (xm_rc q1 (by decide)) rfl q0 ?_
  refine xm_E_s r_X10_means_3 rfl rfl ?_
  refine xm_E_f q2 ?_
  refine xm_E_s r_X10_means_4 rfl rfl ?_
  refine xm_E_s r_X10_means_5 rfl (xm_T_gr rfl q1 rfl rfl q3) ?_
  refine xm_E_s r_X10_means_6 rfl (xm_T_gr rfl q4 rfl rfl q5) ?_
  refine xm_E_s r_X10_means_7 rfl rfl ?_
  refine xm_E_cv [.ref v2, .int l1] [] r_X10_means_8 rfl rfl (Nat.le_of_ble_eq_true rfl) (xm_rc q7 (by decide)) rfl q6 ?_
  refine xm_E_s r_X10_means_9 rfl rfl ?_
  exact xm_E_iret r_X10_means_11 rfl rfl
theorem r_X10_called_0 : co_X10_called[0]? = some ((0, .aload_n 0, 0, 0, 0, 0, 0, 0, []) : xm_I) := rfl
theorem r_X10_called_1 : co_X10_called[1]? = some ((1, .invokevirtual 178, 873, 78, 1, 9, 0, 0, []) : xm_I) := rfl
theorem r_X10_called_2 : co_X10_called[2]? = some ((4, .ifCond .eq 24, 0, 0, 14, 0, 0, 0, []) : xm_I) := rfl
theorem r_X10_called_3 : co_X10_called[3]? = some ((7, .aload_n 0, 0, 0, 0, 0, 0, 0, []) : xm_I) := rfl
theorem r_X10_called_4 : co_X10_called[4]? = some ((8, .iconst 1, 0, 0, 0, 0, 1, 0, []) : xm_I) := rfl
theorem r_X10_called_5 : co_X10_called[5]? = some ((9, .aload_n 0, 0, 0, 0, 0, 0, 0, []) : xm_I) := rfl
theorem r_X10_called_6 : co_X10_called[6]? = some ((10, .getfield 19, 482, 9, 1, 2, 0, 0, []) : xm_I) := rfl
theorem r_X10_called_7 : co_X10_called[7]? = some ((13, .getfield 103, 305, 8, 0, 2, 0, 0, []) : xm_I) := rfl
theorem r_X10_called_8 : co_X10_called[8]? = some ((16, .getfield 255, 226, 0, 6, 0, 0, 0, []) : xm_I) := rfl
theorem r_X10_called_9 : co_X10_called[9]? = some ((19, .ishl, 0, 0, 0, 0, 0, 0, []) : xm_I) := rfl
theorem r_X10_called_10 : co_X10_called[10]? = some ((20, .iconst 1, 0, 0, 0, 0, 1, 0, []) : xm_I) := rfl
theorem r_X10_called_11 : co_X10_called[11]? = some ((21, .isub, 0, 0, 0, 0, 0, 0, []) : xm_I) := rfl
theorem r_X10_called_12 : co_X10_called[12]? = some ((22, .invokevirtual 258, 1086, 125, 2, 9, 0, 0, []) : xm_I) := rfl
theorem r_X10_called_13 : co_X10_called[13]? = some ((25, .goto 5, 0, 0, 15, 0, 0, 0, []) : xm_I) := rfl
theorem r_X10_called_14 : co_X10_called[14]? = some ((28, .bipush (-2), 0, 0, 0, 0, (-2), 0, []) : xm_I) := rfl
theorem r_X10_called_15 : co_X10_called[15]? = some ((30, .ireturn, 0, 0, 0, 0, 0, 0, []) : xm_I) := rfl
theorem p_X10_called_0_0 {X : xm_X} {P : List xm_M} {d : Nat} {h : xm_H} {l0 : Nat} {h0 : xm_H} {r0 : Int32} (q0 : xm_V X P d 78 [.ref l0] h (some (.int r0)) h0) (q1 : X.1[l0]? = some (.inr 9)) (q2 : r0 = (0 : Int32)) : xm_E X P d co_X10_called 0 [some (.ref l0)] [] h (some (.int (-2 : Int32))) h0 := by
  refine xm_E_s r_X10_called_0 rfl rfl ?_
  refine xm_E_cv [.ref l0] [] r_X10_called_1 rfl rfl (Nat.le_of_ble_eq_true rfl) (xm_rc q1 (by decide)) rfl q0 ?_
  refine xm_E_s r_X10_called_2 rfl rfl ?_
  refine xm_E_t q2 ?_
  refine xm_E_s r_X10_called_14 rfl rfl ?_
  exact xm_E_iret r_X10_called_15 rfl rfl
theorem p_X10_called_0_1 {X : xm_X} {P : List xm_M} {d : Nat} {h : xm_H} {l0 : Nat} {h0 : xm_H} {r0 : Int32} {v1 : Nat} {v2 : Nat} {h3 : xm_H} {r3 : Int32} (q0 : xm_V X P d 78 [.ref l0] h (some (.int r0)) h0) (q1 : X.1[l0]? = some (.inr 9)) (q2 : ¬ (r0 = (0 : Int32))) (q3 : h0.2.2 l0 1 = some v1) (q4 : X.1[v1]? = some (.inr 8)) (q5 : h0.2.2 v1 0 = some v2) (q6 : X.1[v2]? = some (.inr 0)) (q7 : xm_V X P d 125 [.ref l0, .int (((1 : Int32) <<< ((h0.1 v2 6) &&& 31)) - (1 : Int32))] h0 (some (.int r3)) h3) : xm_E X P d co_X10_called 0 [some (.ref l0)] [] h (some (.int r3)) h3 := by
  refine xm_E_s r_X10_called_0 rfl rfl ?_
  refine xm_E_cv [.ref l0] [] r_X10_called_1 rfl rfl (Nat.le_of_ble_eq_true rfl) (xm_rc q1 (by decide)) rfl q0 ?_
  refine xm_E_s r_X10_called_2 rfl rfl ?_
  refine xm_E_f q2 ?_
  refine xm_E_s r_X10_called_3 rfl rfl ?_
  refine xm_E_s r_X10_called_4 rfl rfl ?_
  refine xm_E_s r_X10_called_5 rfl rfl ?_
  refine xm_E_s r_X10_called_6 rfl (xm_T_gr rfl q1 rfl rfl q3) ?_
  refine xm_E_s r_X10_called_7 rfl (xm_T_gr rfl q4 rfl rfl q5) ?_
  refine xm_E_s r_X10_called_8 rfl (xm_T_gi rfl q6 rfl (Or.inl rfl)) ?_
  refine xm_E_s r_X10_called_9 rfl rfl ?_
  refine xm_E_s r_X10_called_10 rfl rfl ?_
  refine xm_E_s r_X10_called_11 rfl rfl ?_
  refine xm_E_cv [.ref l0, .int (((1 : Int32) <<< ((h0.1 v2 6) &&& 31)) - (1 : Int32))] [] r_X10_called_12 rfl rfl (Nat.le_of_ble_eq_true rfl) (xm_rc q1 (by decide)) rfl q7 ?_
  refine xm_E_s r_X10_called_13 rfl rfl ?_
  exact xm_E_iret r_X10_called_15 rfl rfl
theorem r_X10_fewestByCalls_0 : co_X10_fewestByCalls[0]? = some ((0, .sipush 512, 0, 0, 0, 0, 512, 0, []) : xm_I) := rfl
theorem r_X10_fewestByCalls_1 : co_X10_fewestByCalls[1]? = some ((3, .istore_n 2, 0, 0, 0, 0, 0, 0, []) : xm_I) := rfl
theorem r_X10_fewestByCalls_2 : co_X10_fewestByCalls[2]? = some ((4, .iconst 0, 0, 0, 0, 0, 0, 0, []) : xm_I) := rfl
theorem r_X10_fewestByCalls_3 : co_X10_fewestByCalls[3]? = some ((5, .istore_n 3, 0, 0, 0, 0, 0, 0, []) : xm_I) := rfl
theorem r_X10_fewestByCalls_4 : co_X10_fewestByCalls[4]? = some ((6, .iload_n 3, 0, 0, 0, 0, 0, 0, []) : xm_I) := rfl
theorem r_X10_fewestByCalls_5 : co_X10_fewestByCalls[5]? = some ((7, .aload_n 0, 0, 0, 0, 0, 0, 0, []) : xm_I) := rfl
theorem r_X10_fewestByCalls_6 : co_X10_fewestByCalls[6]? = some ((8, .getfield 19, 482, 9, 1, 2, 0, 0, []) : xm_I) := rfl
theorem r_X10_fewestByCalls_7 : co_X10_fewestByCalls[7]? = some ((11, .getfield 103, 305, 8, 0, 2, 0, 0, []) : xm_I) := rfl
theorem r_X10_fewestByCalls_8 : co_X10_fewestByCalls[8]? = some ((14, .getfield 255, 226, 0, 6, 0, 0, 0, []) : xm_I) := rfl
theorem r_X10_fewestByCalls_9 : co_X10_fewestByCalls[9]? = some ((17, .if_icmp .ge 46, 0, 0, 34, 0, 0, 0, []) : xm_I) := rfl
theorem r_X10_fewestByCalls_10 : co_X10_fewestByCalls[10]? = some ((20, .aload_n 0, 0, 0, 0, 0, 0, 0, []) : xm_I) := rfl
theorem r_X10_fewestByCalls_11 : co_X10_fewestByCalls[11]? = some ((21, .getfield 19, 482, 9, 1, 2, 0, 0, []) : xm_I) := rfl
theorem r_X10_fewestByCalls_12 : co_X10_fewestByCalls[12]? = some ((24, .getfield 103, 305, 8, 0, 2, 0, 0, []) : xm_I) := rfl
theorem r_X10_fewestByCalls_13 : co_X10_fewestByCalls[13]? = some ((27, .iload_n 3, 0, 0, 0, 0, 0, 0, []) : xm_I) := rfl
theorem r_X10_fewestByCalls_14 : co_X10_fewestByCalls[14]? = some ((28, .invokevirtual 149, 785, 57, 2, 0, 0, 0, []) : xm_I) := rfl
theorem r_X10_fewestByCalls_15 : co_X10_fewestByCalls[15]? = some ((31, .istore 4, 0, 0, 0, 0, 0, 0, []) : xm_I) := rfl
theorem r_X10_fewestByCalls_16 : co_X10_fewestByCalls[16]? = some ((33, .iload_n 1, 0, 0, 0, 0, 0, 0, []) : xm_I) := rfl
theorem r_X10_fewestByCalls_17 : co_X10_fewestByCalls[17]? = some ((34, .iload_n 3, 0, 0, 0, 0, 0, 0, []) : xm_I) := rfl
theorem r_X10_fewestByCalls_18 : co_X10_fewestByCalls[18]? = some ((35, .ishr, 0, 0, 0, 0, 0, 0, []) : xm_I) := rfl
theorem r_X10_fewestByCalls_19 : co_X10_fewestByCalls[19]? = some ((36, .iconst 1, 0, 0, 0, 0, 1, 0, []) : xm_I) := rfl
theorem r_X10_fewestByCalls_20 : co_X10_fewestByCalls[20]? = some ((37, .iand, 0, 0, 0, 0, 0, 0, []) : xm_I) := rfl
theorem r_X10_fewestByCalls_21 : co_X10_fewestByCalls[21]? = some ((38, .iconst 1, 0, 0, 0, 0, 1, 0, []) : xm_I) := rfl
theorem r_X10_fewestByCalls_22 : co_X10_fewestByCalls[22]? = some ((39, .if_icmp .ne 18, 0, 0, 32, 0, 0, 0, []) : xm_I) := rfl
theorem r_X10_fewestByCalls_23 : co_X10_fewestByCalls[23]? = some ((42, .iload 4, 0, 0, 0, 0, 0, 0, []) : xm_I) := rfl
theorem r_X10_fewestByCalls_24 : co_X10_fewestByCalls[24]? = some ((44, .invokestatic 126, 734, 46, 1, 0, 0, 0, []) : xm_I) := rfl
theorem r_X10_fewestByCalls_25 : co_X10_fewestByCalls[25]? = some ((47, .ifCond .eq 10, 0, 0, 32, 0, 0, 0, []) : xm_I) := rfl
theorem r_X10_fewestByCalls_26 : co_X10_fewestByCalls[26]? = some ((50, .iload_n 2, 0, 0, 0, 0, 0, 0, []) : xm_I) := rfl
theorem r_X10_fewestByCalls_27 : co_X10_fewestByCalls[27]? = some ((51, .iconst 1, 0, 0, 0, 0, 1, 0, []) : xm_I) := rfl
theorem r_X10_fewestByCalls_28 : co_X10_fewestByCalls[28]? = some ((52, .iload 4, 0, 0, 0, 0, 0, 0, []) : xm_I) := rfl
theorem r_X10_fewestByCalls_29 : co_X10_fewestByCalls[29]? = some ((54, .ishl, 0, 0, 0, 0, 0, 0, []) : xm_I) := rfl
theorem r_X10_fewestByCalls_30 : co_X10_fewestByCalls[30]? = some ((55, .ior, 0, 0, 0, 0, 0, 0, []) : xm_I) := rfl
theorem r_X10_fewestByCalls_31 : co_X10_fewestByCalls[31]? = some ((56, .istore_n 2, 0, 0, 0, 0, 0, 0, []) : xm_I) := rfl
theorem r_X10_fewestByCalls_32 : co_X10_fewestByCalls[32]? = some ((57, .iinc 3 1, 0, 0, 0, 0, 1, 0, []) : xm_I) := rfl
theorem r_X10_fewestByCalls_33 : co_X10_fewestByCalls[33]? = some ((60, .goto (-54), 0, 0, 4, 0, 0, 0, []) : xm_I) := rfl
theorem r_X10_fewestByCalls_34 : co_X10_fewestByCalls[34]? = some ((63, .aload_n 0, 0, 0, 0, 0, 0, 0, []) : xm_I) := rfl
theorem r_X10_fewestByCalls_35 : co_X10_fewestByCalls[35]? = some ((64, .getfield 43, 486, 9, 5, 2, 0, 0, []) : xm_I) := rfl
theorem r_X10_fewestByCalls_36 : co_X10_fewestByCalls[36]? = some ((67, .aload_n 0, 0, 0, 0, 0, 0, 0, []) : xm_I) := rfl
theorem r_X10_fewestByCalls_37 : co_X10_fewestByCalls[37]? = some ((68, .getfield 19, 482, 9, 1, 2, 0, 0, []) : xm_I) := rfl
theorem r_X10_fewestByCalls_38 : co_X10_fewestByCalls[38]? = some ((71, .getfield 116, 311, 8, 3, 0, 0, 0, []) : xm_I) := rfl
theorem r_X10_fewestByCalls_39 : co_X10_fewestByCalls[39]? = some ((74, .iload_n 2, 0, 0, 0, 0, 0, 0, []) : xm_I) := rfl
theorem r_X10_fewestByCalls_40 : co_X10_fewestByCalls[40]? = some ((75, .aload_n 0, 0, 0, 0, 0, 0, 0, []) : xm_I) := rfl
theorem r_X10_fewestByCalls_41 : co_X10_fewestByCalls[41]? = some ((76, .getfield 19, 482, 9, 1, 2, 0, 0, []) : xm_I) := rfl
theorem r_X10_fewestByCalls_42 : co_X10_fewestByCalls[42]? = some ((79, .getfield 103, 305, 8, 0, 2, 0, 0, []) : xm_I) := rfl
theorem r_X10_fewestByCalls_43 : co_X10_fewestByCalls[43]? = some ((82, .getfield 130, 219, 0, 4, 0, 0, 0, []) : xm_I) := rfl
theorem r_X10_fewestByCalls_44 : co_X10_fewestByCalls[44]? = some ((85, .bipush 60, 0, 0, 0, 0, 60, 0, []) : xm_I) := rfl
theorem r_X10_fewestByCalls_45 : co_X10_fewestByCalls[45]? = some ((87, .invokevirtual 420, 885, 81, 5, 3, 0, 0, []) : xm_I) := rfl
theorem r_X10_fewestByCalls_46 : co_X10_fewestByCalls[46]? = some ((90, .aload_n 0, 0, 0, 0, 0, 0, 0, []) : xm_I) := rfl
theorem r_X10_fewestByCalls_47 : co_X10_fewestByCalls[47]? = some ((91, .getfield 43, 486, 9, 5, 2, 0, 0, []) : xm_I) := rfl
theorem r_X10_fewestByCalls_48 : co_X10_fewestByCalls[48]? = some ((94, .aload_n 0, 0, 0, 0, 0, 0, 0, []) : xm_I) := rfl
theorem r_X10_fewestByCalls_49 : co_X10_fewestByCalls[49]? = some ((95, .getfield 43, 486, 9, 5, 2, 0, 0, []) : xm_I) := rfl
theorem r_X10_fewestByCalls_50 : co_X10_fewestByCalls[50]? = some ((98, .aload_n 0, 0, 0, 0, 0, 0, 0, []) : xm_I) := rfl
theorem r_X10_fewestByCalls_51 : co_X10_fewestByCalls[51]? = some ((99, .getfield 19, 482, 9, 1, 2, 0, 0, []) : xm_I) := rfl
theorem r_X10_fewestByCalls_52 : co_X10_fewestByCalls[52]? = some ((102, .getfield 103, 305, 8, 0, 2, 0, 0, []) : xm_I) := rfl
theorem r_X10_fewestByCalls_53 : co_X10_fewestByCalls[53]? = some ((105, .getfield 187, 249, 0, 12, 2, 0, 0, []) : xm_I) := rfl
theorem r_X10_fewestByCalls_54 : co_X10_fewestByCalls[54]? = some ((108, .invokevirtual 191, 916, 87, 2, 3, 0, 0, []) : xm_I) := rfl
theorem r_X10_fewestByCalls_55 : co_X10_fewestByCalls[55]? = some ((111, .invokevirtual 209, 929, 89, 2, 3, 0, 0, []) : xm_I) := rfl
theorem r_X10_fewestByCalls_56 : co_X10_fewestByCalls[56]? = some ((114, .ireturn, 0, 0, 0, 0, 0, 0, []) : xm_I) := rfl
theorem p_X10_fewestByCalls_0_0 {X : xm_X} {P : List xm_M} {d : Nat} {h : xm_H} {l0 : Nat} {l1 : Int32} {ro : Option Value} {ho : xm_H}  (K : xm_E X P d co_X10_fewestByCalls 4 [some (.ref l0), some (.int l1), some (.int (512 : Int32)), some (.int (0 : Int32)), none] [] h ro ho) : xm_E X P d co_X10_fewestByCalls 0 [some (.ref l0), some (.int l1), none, none, none] [] h ro ho := by
  refine xm_E_s r_X10_fewestByCalls_0 rfl rfl ?_
  refine xm_E_s (ls1 := [some (.ref l0), some (.int l1), some (.int (512 : Int32)), none, none]) r_X10_fewestByCalls_1 rfl rfl ?_
  refine xm_E_s r_X10_fewestByCalls_2 rfl rfl ?_
  refine xm_E_s (ls1 := [some (.ref l0), some (.int l1), some (.int (512 : Int32)), some (.int (0 : Int32)), none]) r_X10_fewestByCalls_3 rfl rfl ?_
  exact K
theorem p_X10_fewestByCalls_4_0 {X : xm_X} {P : List xm_M} {d : Nat} {h : xm_H} {l0 : Nat} {l1 : Int32} {l2 : Int32} {l3 : Int32} {l4 : Option Value} {v0 : Nat} {v1 : Nat} {v2 : Nat} {h3 : xm_H} {v4 : Nat} {v5 : Nat} {v6 : Nat} {v7 : Nat} {h8 : xm_H} {r8 : Int32} {h9 : xm_H} {r9 : Int32} (q0 : X.1[l0]? = some (.inr 9)) (q1 : h.2.2 l0 1 = some v0) (q2 : X.1[v0]? = some (.inr 8)) (q3 : h.2.2 v0 0 = some v1) (q4 : X.1[v1]? = some (.inr 0)) (q5 : h.1 v1 6 ≤ l3) (q6 : h.2.2 l0 5 = some v2) (q7 : xm_V X P d 81 [.ref v2, .int (h.1 v0 3), .int l2, .int (h.1 v1 4), .int (60 : Int32)] h none h3) (q8 : X.1[v2]? = some (.inr 3)) (q9 : h3.2.2 l0 5 = some v4) (q10 : h3.2.2 l0 1 = some v5) (q11 : X.1[v5]? = some (.inr 8)) (q12 : h3.2.2 v5 0 = some v6) (q13 : X.1[v6]? = some (.inr 0)) (q14 : h3.2.2 v6 12 = some v7) (q15 : xm_V X P d 87 [.ref v4, .ref v7] h3 (some (.int r8)) h8) (q16 : X.1[v4]? = some (.inr 3)) (q17 : xm_V X P d 89 [.ref v4, .int r8] h8 (some (.int r9)) h9) : xm_E X P d co_X10_fewestByCalls 4 [some (.ref l0), some (.int l1), some (.int l2), some (.int l3), l4] [] h (some (.int r9)) h9 := by
  refine xm_E_s r_X10_fewestByCalls_4 rfl rfl ?_
  refine xm_E_s r_X10_fewestByCalls_5 rfl rfl ?_
  refine xm_E_s r_X10_fewestByCalls_6 rfl (xm_T_gr rfl q0 rfl rfl q1) ?_
  refine xm_E_s r_X10_fewestByCalls_7 rfl (xm_T_gr rfl q2 rfl rfl q3) ?_
  refine xm_E_s r_X10_fewestByCalls_8 rfl (xm_T_gi rfl q4 rfl (Or.inl rfl)) ?_
  refine xm_E_s r_X10_fewestByCalls_9 rfl rfl ?_
  refine xm_E_t q5 ?_
  refine xm_E_s r_X10_fewestByCalls_34 rfl rfl ?_
  refine xm_E_s r_X10_fewestByCalls_35 rfl (xm_T_gr rfl q0 rfl rfl q6) ?_
  refine xm_E_s r_X10_fewestByCalls_36 rfl rfl ?_
  refine xm_E_s r_X10_fewestByCalls_37 rfl (xm_T_gr rfl q0 rfl rfl q1) ?_
  refine xm_E_s r_X10_fewestByCalls_38 rfl (xm_T_gi rfl q2 rfl (Or.inl rfl)) ?_
  refine xm_E_s r_X10_fewestByCalls_39 rfl rfl ?_
  refine xm_E_s r_X10_fewestByCalls_40 rfl rfl ?_
  refine xm_E_s r_X10_fewestByCalls_41 rfl (xm_T_gr rfl q0 rfl rfl q1) ?_
  refine xm_E_s r_X10_fewestByCalls_42 rfl (xm_T_gr rfl q2 rfl rfl q3) ?_
  refine xm_E_s r_X10_fewestByCalls_43 rfl (xm_T_gi rfl q4 rfl (Or.inl rfl)) ?_
  refine xm_E_s r_X10_fewestByCalls_44 rfl rfl ?_
  refine xm_E_cv [.ref v2, .int (h.1 v0 3), .int l2, .int (h.1 v1 4), .int (60 : Int32)] [] r_X10_fewestByCalls_45 rfl rfl (Nat.le_of_ble_eq_true rfl) (xm_rc q8 (by decide)) rfl q7 ?_
  refine xm_E_s r_X10_fewestByCalls_46 rfl rfl ?_
  refine xm_E_s r_X10_fewestByCalls_47 rfl (xm_T_gr rfl q0 rfl rfl q9) ?_
  refine xm_E_s r_X10_fewestByCalls_48 rfl rfl ?_
  refine xm_E_s r_X10_fewestByCalls_49 rfl (xm_T_gr rfl q0 rfl rfl q9) ?_
  refine xm_E_s r_X10_fewestByCalls_50 rfl rfl ?_
  refine xm_E_s r_X10_fewestByCalls_51 rfl (xm_T_gr rfl q0 rfl rfl q10) ?_
  refine xm_E_s r_X10_fewestByCalls_52 rfl (xm_T_gr rfl q11 rfl rfl q12) ?_
  refine xm_E_s r_X10_fewestByCalls_53 rfl (xm_T_gr rfl q13 rfl rfl q14) ?_
  refine xm_E_cv [.ref v4, .ref v7] [.ref v4] r_X10_fewestByCalls_54 rfl rfl (Nat.le_of_ble_eq_true rfl) (xm_rc q16 (by decide)) rfl q15 ?_
  refine xm_E_cv [.ref v4, .int r8] [] r_X10_fewestByCalls_55 rfl rfl (Nat.le_of_ble_eq_true rfl) (xm_rc q16 (by decide)) rfl q17 ?_
  exact xm_E_iret r_X10_fewestByCalls_56 rfl rfl
theorem p_X10_fewestByCalls_4_1 {X : xm_X} {P : List xm_M} {d : Nat} {h : xm_H} {l0 : Nat} {l1 : Int32} {l2 : Int32} {l3 : Int32} {l4 : Option Value} {v0 : Nat} {v1 : Nat} {h2 : xm_H} {r2 : Int32} {h3 : xm_H} {r3 : Int32} {ro : Option Value} {ho : xm_H} (q0 : X.1[l0]? = some (.inr 9)) (q1 : h.2.2 l0 1 = some v0) (q2 : X.1[v0]? = some (.inr 8)) (q3 : h.2.2 v0 0 = some v1) (q4 : X.1[v1]? = some (.inr 0)) (q5 : ¬ (h.1 v1 6 ≤ l3)) (q6 : xm_V X P d 57 [.ref v1, .int l3] h (some (.int r2)) h2) (q7 : (l1 >>> (l3 &&& 31)) &&& (1 : Int32) = (1 : Int32)) (q8 : xm_V X P d 46 [.int r2] h2 (some (.int r3)) h3) (q9 : r3 = (0 : Int32)) (K : xm_E X P d co_X10_fewestByCalls 4 [some (.ref l0), some (.int l1), some (.int l2), some (.int (l3 + (1 : Int32))), some (.int r2)] [] h3 ro ho) : xm_E X P d co_X10_fewestByCalls 4 [some (.ref l0), some (.int l1), some (.int l2), some (.int l3), l4] [] h ro ho := by
  refine xm_E_s r_X10_fewestByCalls_4 rfl rfl ?_
  refine xm_E_s r_X10_fewestByCalls_5 rfl rfl ?_
  refine xm_E_s r_X10_fewestByCalls_6 rfl (xm_T_gr rfl q0 rfl rfl q1) ?_
  refine xm_E_s r_X10_fewestByCalls_7 rfl (xm_T_gr rfl q2 rfl rfl q3) ?_
  refine xm_E_s r_X10_fewestByCalls_8 rfl (xm_T_gi rfl q4 rfl (Or.inl rfl)) ?_
  refine xm_E_s r_X10_fewestByCalls_9 rfl rfl ?_
  refine xm_E_f q5 ?_
  refine xm_E_s r_X10_fewestByCalls_10 rfl rfl ?_
  refine xm_E_s r_X10_fewestByCalls_11 rfl (xm_T_gr rfl q0 rfl rfl q1) ?_
  refine xm_E_s r_X10_fewestByCalls_12 rfl (xm_T_gr rfl q2 rfl rfl q3) ?_
  refine xm_E_s r_X10_fewestByCalls_13 rfl rfl ?_
  refine xm_E_cv [.ref v1, .int l3] [] r_X10_fewestByCalls_14 rfl rfl (Nat.le_of_ble_eq_true rfl) (xm_rc q4 (by decide)) rfl q6 ?_
  refine xm_E_s (ls1 := [some (.ref l0), some (.int l1), some (.int l2), some (.int l3), some (.int r2)]) r_X10_fewestByCalls_15 rfl rfl ?_
  refine xm_E_s r_X10_fewestByCalls_16 rfl rfl ?_
  refine xm_E_s r_X10_fewestByCalls_17 rfl rfl ?_
  refine xm_E_s r_X10_fewestByCalls_18 rfl rfl ?_
  refine xm_E_s r_X10_fewestByCalls_19 rfl rfl ?_
  refine xm_E_s r_X10_fewestByCalls_20 rfl rfl ?_
  refine xm_E_s r_X10_fewestByCalls_21 rfl rfl ?_
  refine xm_E_s r_X10_fewestByCalls_22 rfl rfl ?_
  refine xm_E_t q7 ?_
  refine xm_E_s r_X10_fewestByCalls_23 rfl rfl ?_
  refine xm_E_cs [.int r2] [] r_X10_fewestByCalls_24 rfl rfl rfl (Nat.le_of_ble_eq_true rfl) rfl q8 ?_
  refine xm_E_s r_X10_fewestByCalls_25 rfl rfl ?_
  refine xm_E_t q9 ?_
  refine xm_E_s (ls1 := [some (.ref l0), some (.int l1), some (.int l2), some (.int (l3 + (1 : Int32))), some (.int r2)]) r_X10_fewestByCalls_32 rfl rfl ?_
  refine xm_E_s r_X10_fewestByCalls_33 rfl rfl ?_
  exact K
theorem p_X10_fewestByCalls_4_2 {X : xm_X} {P : List xm_M} {d : Nat} {h : xm_H} {l0 : Nat} {l1 : Int32} {l2 : Int32} {l3 : Int32} {l4 : Option Value} {v0 : Nat} {v1 : Nat} {h2 : xm_H} {r2 : Int32} {h3 : xm_H} {r3 : Int32} {ro : Option Value} {ho : xm_H} (q0 : X.1[l0]? = some (.inr 9)) (q1 : h.2.2 l0 1 = some v0) (q2 : X.1[v0]? = some (.inr 8)) (q3 : h.2.2 v0 0 = some v1) (q4 : X.1[v1]? = some (.inr 0)) (q5 : ¬ (h.1 v1 6 ≤ l3)) (q6 : xm_V X P d 57 [.ref v1, .int l3] h (some (.int r2)) h2) (q7 : (l1 >>> (l3 &&& 31)) &&& (1 : Int32) = (1 : Int32)) (q8 : xm_V X P d 46 [.int r2] h2 (some (.int r3)) h3) (q9 : ¬ (r3 = (0 : Int32))) (K : xm_E X P d co_X10_fewestByCalls 4 [some (.ref l0), some (.int l1), some (.int (l2 ||| ((1 : Int32) <<< (r2 &&& 31)))), some (.int (l3 + (1 : Int32))), some (.int r2)] [] h3 ro ho) : xm_E X P d co_X10_fewestByCalls 4 [some (.ref l0), some (.int l1), some (.int l2), some (.int l3), l4] [] h ro ho := by
  refine xm_E_s r_X10_fewestByCalls_4 rfl rfl ?_
  refine xm_E_s r_X10_fewestByCalls_5 rfl rfl ?_
  refine xm_E_s r_X10_fewestByCalls_6 rfl (xm_T_gr rfl q0 rfl rfl q1) ?_
  refine xm_E_s r_X10_fewestByCalls_7 rfl (xm_T_gr rfl q2 rfl rfl q3) ?_
  refine xm_E_s r_X10_fewestByCalls_8 rfl (xm_T_gi rfl q4 rfl (Or.inl rfl)) ?_
  refine xm_E_s r_X10_fewestByCalls_9 rfl rfl ?_
  refine xm_E_f q5 ?_
  refine xm_E_s r_X10_fewestByCalls_10 rfl rfl ?_
  refine xm_E_s r_X10_fewestByCalls_11 rfl (xm_T_gr rfl q0 rfl rfl q1) ?_
  refine xm_E_s r_X10_fewestByCalls_12 rfl (xm_T_gr rfl q2 rfl rfl q3) ?_
  refine xm_E_s r_X10_fewestByCalls_13 rfl rfl ?_
  refine xm_E_cv [.ref v1, .int l3] [] r_X10_fewestByCalls_14 rfl rfl (Nat.le_of_ble_eq_true rfl) (xm_rc q4 (by decide)) rfl q6 ?_
  refine xm_E_s (ls1 := [some (.ref l0), some (.int l1), some (.int l2), some (.int l3), some (.int r2)]) r_X10_fewestByCalls_15 rfl rfl ?_
  refine xm_E_s r_X10_fewestByCalls_16 rfl rfl ?_
  refine xm_E_s r_X10_fewestByCalls_17 rfl rfl ?_
  refine xm_E_s r_X10_fewestByCalls_18 rfl rfl ?_
  refine xm_E_s r_X10_fewestByCalls_19 rfl rfl ?_
  refine xm_E_s r_X10_fewestByCalls_20 rfl rfl ?_
  refine xm_E_s r_X10_fewestByCalls_21 rfl rfl ?_
  refine xm_E_s r_X10_fewestByCalls_22 rfl rfl ?_
  refine xm_E_t q7 ?_
  refine xm_E_s r_X10_fewestByCalls_23 rfl rfl ?_
  refine xm_E_cs [.int r2] [] r_X10_fewestByCalls_24 rfl rfl rfl (Nat.le_of_ble_eq_true rfl) rfl q8 ?_
  refine xm_E_s r_X10_fewestByCalls_25 rfl rfl ?_
  refine xm_E_f q9 ?_
  refine xm_E_s r_X10_fewestByCalls_26 rfl rfl ?_
  refine xm_E_s r_X10_fewestByCalls_27 rfl rfl ?_
  refine xm_E_s r_X10_fewestByCalls_28 rfl rfl ?_
  refine xm_E_s r_X10_fewestByCalls_29 rfl rfl ?_
  refine xm_E_s r_X10_fewestByCalls_30 rfl rfl ?_
  refine xm_E_s (ls1 := [some (.ref l0), some (.int l1), some (.int (l2 ||| ((1 : Int32) <<< (r2 &&& 31)))), some (.int l3), some (.int r2)]) r_X10_fewestByCalls_31 rfl rfl ?_
  refine xm_E_s (ls1 := [some (.ref l0), some (.int l1), some (.int (l2 ||| ((1 : Int32) <<< (r2 &&& 31)))), some (.int (l3 + (1 : Int32))), some (.int r2)]) r_X10_fewestByCalls_32 rfl rfl ?_
  refine xm_E_s r_X10_fewestByCalls_33 rfl rfl ?_
  exact K
theorem p_X10_fewestByCalls_4_3 {X : xm_X} {P : List xm_M} {d : Nat} {h : xm_H} {l0 : Nat} {l1 : Int32} {l2 : Int32} {l3 : Int32} {l4 : Option Value} {v0 : Nat} {v1 : Nat} {h2 : xm_H} {r2 : Int32} {ro : Option Value} {ho : xm_H} (q0 : X.1[l0]? = some (.inr 9)) (q1 : h.2.2 l0 1 = some v0) (q2 : X.1[v0]? = some (.inr 8)) (q3 : h.2.2 v0 0 = some v1) (q4 : X.1[v1]? = some (.inr 0)) (q5 : ¬ (h.1 v1 6 ≤ l3)) (q6 : xm_V X P d 57 [.ref v1, .int l3] h (some (.int r2)) h2) (q7 : ¬ ((l1 >>> (l3 &&& 31)) &&& (1 : Int32) = (1 : Int32))) (K : xm_E X P d co_X10_fewestByCalls 4 [some (.ref l0), some (.int l1), some (.int l2), some (.int (l3 + (1 : Int32))), some (.int r2)] [] h2 ro ho) : xm_E X P d co_X10_fewestByCalls 4 [some (.ref l0), some (.int l1), some (.int l2), some (.int l3), l4] [] h ro ho := by
  refine xm_E_s r_X10_fewestByCalls_4 rfl rfl ?_
  refine xm_E_s r_X10_fewestByCalls_5 rfl rfl ?_
  refine xm_E_s r_X10_fewestByCalls_6 rfl (xm_T_gr rfl q0 rfl rfl q1) ?_
  refine xm_E_s r_X10_fewestByCalls_7 rfl (xm_T_gr rfl q2 rfl rfl q3) ?_
  refine xm_E_s r_X10_fewestByCalls_8 rfl (xm_T_gi rfl q4 rfl (Or.inl rfl)) ?_
  refine xm_E_s r_X10_fewestByCalls_9 rfl rfl ?_
  refine xm_E_f q5 ?_
  refine xm_E_s r_X10_fewestByCalls_10 rfl rfl ?_
  refine xm_E_s r_X10_fewestByCalls_11 rfl (xm_T_gr rfl q0 rfl rfl q1) ?_
  refine xm_E_s r_X10_fewestByCalls_12 rfl (xm_T_gr rfl q2 rfl rfl q3) ?_
  refine xm_E_s r_X10_fewestByCalls_13 rfl rfl ?_
  refine xm_E_cv [.ref v1, .int l3] [] r_X10_fewestByCalls_14 rfl rfl (Nat.le_of_ble_eq_true rfl) (xm_rc q4 (by decide)) rfl q6 ?_
  refine xm_E_s (ls1 := [some (.ref l0), some (.int l1), some (.int l2), some (.int l3), some (.int r2)]) r_X10_fewestByCalls_15 rfl rfl ?_
  refine xm_E_s r_X10_fewestByCalls_16 rfl rfl ?_
  refine xm_E_s r_X10_fewestByCalls_17 rfl rfl ?_
  refine xm_E_s r_X10_fewestByCalls_18 rfl rfl ?_
  refine xm_E_s r_X10_fewestByCalls_19 rfl rfl ?_
  refine xm_E_s r_X10_fewestByCalls_20 rfl rfl ?_
  refine xm_E_s r_X10_fewestByCalls_21 rfl rfl ?_
  refine xm_E_s r_X10_fewestByCalls_22 rfl rfl ?_
  refine xm_E_f q7 ?_
  refine xm_E_s (ls1 := [some (.ref l0), some (.int l1), some (.int l2), some (.int (l3 + (1 : Int32))), some (.int r2)]) r_X10_fewestByCalls_32 rfl rfl ?_
  refine xm_E_s r_X10_fewestByCalls_33 rfl rfl ?_
  exact K
theorem r_X10_words_0 : co_X10_words[0]? = some ((0, .aload_n 0, 0, 0, 0, 0, 0, 0, []) : xm_I) := rfl
theorem r_X10_words_1 : co_X10_words[1]? = some ((1, .invokevirtual 178, 873, 78, 1, 9, 0, 0, []) : xm_I) := rfl
theorem r_X10_words_2 : co_X10_words[2]? = some ((4, .ifCond .eq 10, 0, 0, 6, 0, 0, 0, []) : xm_I) := rfl
theorem r_X10_words_3 : co_X10_words[3]? = some ((7, .iload_n 1, 0, 0, 0, 0, 0, 0, []) : xm_I) := rfl
theorem r_X10_words_4 : co_X10_words[4]? = some ((8, .invokestatic 261, 1094, 127, 1, 0, 0, 0, []) : xm_I) := rfl
theorem r_X10_words_5 : co_X10_words[5]? = some ((11, .ifCond .ne 6, 0, 0, 8, 0, 0, 0, []) : xm_I) := rfl
theorem r_X10_words_6 : co_X10_words[6]? = some ((14, .bipush (-2), 0, 0, 0, 0, (-2), 0, []) : xm_I) := rfl
theorem r_X10_words_7 : co_X10_words[7]? = some ((16, .ireturn, 0, 0, 0, 0, 0, 0, []) : xm_I) := rfl
theorem r_X10_words_8 : co_X10_words[8]? = some ((17, .aload_n 0, 0, 0, 0, 0, 0, 0, []) : xm_I) := rfl
theorem r_X10_words_9 : co_X10_words[9]? = some ((18, .invokevirtual 264, 1097, 128, 1, 9, 0, 0, []) : xm_I) := rfl
theorem r_X10_words_10 : co_X10_words[10]? = some ((21, .istore_n 2, 0, 0, 0, 0, 0, 0, []) : xm_I) := rfl
theorem r_X10_words_11 : co_X10_words[11]? = some ((22, .iload_n 2, 0, 0, 0, 0, 0, 0, []) : xm_I) := rfl
theorem r_X10_words_12 : co_X10_words[12]? = some ((23, .iconst (-1), 0, 0, 0, 0, (-1), 0, []) : xm_I) := rfl
theorem r_X10_words_13 : co_X10_words[13]? = some ((24, .if_icmp .eq 8, 0, 0, 17, 0, 0, 0, []) : xm_I) := rfl
theorem r_X10_words_14 : co_X10_words[14]? = some ((27, .iload_n 1, 0, 0, 0, 0, 0, 0, []) : xm_I) := rfl
theorem r_X10_words_15 : co_X10_words[15]? = some ((28, .iconst 1, 0, 0, 0, 0, 1, 0, []) : xm_I) := rfl
theorem r_X10_words_16 : co_X10_words[16]? = some ((29, .if_icmp .ne 7, 0, 0, 19, 0, 0, 0, []) : xm_I) := rfl
theorem r_X10_words_17 : co_X10_words[17]? = some ((32, .iload_n 2, 0, 0, 0, 0, 0, 0, []) : xm_I) := rfl
theorem r_X10_words_18 : co_X10_words[18]? = some ((33, .goto 7, 0, 0, 21, 0, 0, 0, []) : xm_I) := rfl
theorem r_X10_words_19 : co_X10_words[19]? = some ((36, .iload_n 2, 0, 0, 0, 0, 0, 0, []) : xm_I) := rfl
theorem r_X10_words_20 : co_X10_words[20]? = some ((37, .invokestatic 268, 1101, 129, 1, 0, 0, 0, []) : xm_I) := rfl
theorem r_X10_words_21 : co_X10_words[21]? = some ((40, .ireturn, 0, 0, 0, 0, 0, 0, []) : xm_I) := rfl
theorem p_X10_words_0_0 {X : xm_X} {P : List xm_M} {d : Nat} {h : xm_H} {l0 : Nat} {l1 : Int32} {h0 : xm_H} {r0 : Int32} (q0 : xm_V X P d 78 [.ref l0] h (some (.int r0)) h0) (q1 : X.1[l0]? = some (.inr 9)) (q2 : r0 = (0 : Int32)) : xm_E X P d co_X10_words 0 [some (.ref l0), some (.int l1), none] [] h (some (.int (-2 : Int32))) h0 := by
  refine xm_E_s r_X10_words_0 rfl rfl ?_
  refine xm_E_cv [.ref l0] [] r_X10_words_1 rfl rfl (Nat.le_of_ble_eq_true rfl) (xm_rc q1 (by decide)) rfl q0 ?_
  refine xm_E_s r_X10_words_2 rfl rfl ?_
  refine xm_E_t q2 ?_
  refine xm_E_s r_X10_words_6 rfl rfl ?_
  exact xm_E_iret r_X10_words_7 rfl rfl
theorem p_X10_words_0_1 {X : xm_X} {P : List xm_M} {d : Nat} {h : xm_H} {l0 : Nat} {l1 : Int32} {h0 : xm_H} {r0 : Int32} {h1 : xm_H} {r1 : Int32} (q0 : xm_V X P d 78 [.ref l0] h (some (.int r0)) h0) (q1 : X.1[l0]? = some (.inr 9)) (q2 : ¬ (r0 = (0 : Int32))) (q3 : xm_V X P d 127 [.int l1] h0 (some (.int r1)) h1) (q4 : r1 = (0 : Int32)) : xm_E X P d co_X10_words 0 [some (.ref l0), some (.int l1), none] [] h (some (.int (-2 : Int32))) h1 := by
  refine xm_E_s r_X10_words_0 rfl rfl ?_
  refine xm_E_cv [.ref l0] [] r_X10_words_1 rfl rfl (Nat.le_of_ble_eq_true rfl) (xm_rc q1 (by decide)) rfl q0 ?_
  refine xm_E_s r_X10_words_2 rfl rfl ?_
  refine xm_E_f q2 ?_
  refine xm_E_s r_X10_words_3 rfl rfl ?_
  refine xm_E_cs [.int l1] [] r_X10_words_4 rfl rfl rfl (Nat.le_of_ble_eq_true rfl) rfl q3 ?_
  refine xm_E_s r_X10_words_5 rfl rfl ?_
  refine xm_E_t q4 ?_
  refine xm_E_s r_X10_words_6 rfl rfl ?_
  exact xm_E_iret r_X10_words_7 rfl rfl
theorem p_X10_words_0_2 {X : xm_X} {P : List xm_M} {d : Nat} {h : xm_H} {l0 : Nat} {l1 : Int32} {h0 : xm_H} {r0 : Int32} {h1 : xm_H} {r1 : Int32} {h2 : xm_H} {r2 : Int32} (q0 : xm_V X P d 78 [.ref l0] h (some (.int r0)) h0) (q1 : X.1[l0]? = some (.inr 9)) (q2 : ¬ (r0 = (0 : Int32))) (q3 : xm_V X P d 127 [.int l1] h0 (some (.int r1)) h1) (q4 : ¬ (r1 = (0 : Int32))) (q5 : xm_V X P d 128 [.ref l0] h1 (some (.int r2)) h2) (q6 : r2 = (-1 : Int32)) : xm_E X P d co_X10_words 0 [some (.ref l0), some (.int l1), none] [] h (some (.int r2)) h2 := by
  refine xm_E_s r_X10_words_0 rfl rfl ?_
  refine xm_E_cv [.ref l0] [] r_X10_words_1 rfl rfl (Nat.le_of_ble_eq_true rfl) (xm_rc q1 (by decide)) rfl q0 ?_
  refine xm_E_s r_X10_words_2 rfl rfl ?_
  refine xm_E_f q2 ?_
  refine xm_E_s r_X10_words_3 rfl rfl ?_
  refine xm_E_cs [.int l1] [] r_X10_words_4 rfl rfl rfl (Nat.le_of_ble_eq_true rfl) rfl q3 ?_
  refine xm_E_s r_X10_words_5 rfl rfl ?_
  refine xm_E_f q4 ?_
  refine xm_E_s r_X10_words_8 rfl rfl ?_
  refine xm_E_cv [.ref l0] [] r_X10_words_9 rfl rfl (Nat.le_of_ble_eq_true rfl) (xm_rc q1 (by decide)) rfl q5 ?_
  refine xm_E_s (ls1 := [some (.ref l0), some (.int l1), some (.int r2)]) r_X10_words_10 rfl rfl ?_
  refine xm_E_s r_X10_words_11 rfl rfl ?_
  refine xm_E_s r_X10_words_12 rfl rfl ?_
  refine xm_E_s r_X10_words_13 rfl rfl ?_
  refine xm_E_t q6 ?_
  refine xm_E_s r_X10_words_17 rfl rfl ?_
  refine xm_E_s r_X10_words_18 rfl rfl ?_
  exact xm_E_iret r_X10_words_21 rfl rfl
theorem p_X10_words_0_3 {X : xm_X} {P : List xm_M} {d : Nat} {h : xm_H} {l0 : Nat} {l1 : Int32} {h0 : xm_H} {r0 : Int32} {h1 : xm_H} {r1 : Int32} {h2 : xm_H} {r2 : Int32} (q0 : xm_V X P d 78 [.ref l0] h (some (.int r0)) h0) (q1 : X.1[l0]? = some (.inr 9)) (q2 : ¬ (r0 = (0 : Int32))) (q3 : xm_V X P d 127 [.int l1] h0 (some (.int r1)) h1) (q4 : ¬ (r1 = (0 : Int32))) (q5 : xm_V X P d 128 [.ref l0] h1 (some (.int r2)) h2) (q6 : ¬ (r2 = (-1 : Int32))) (q7 : l1 = (1 : Int32)) : xm_E X P d co_X10_words 0 [some (.ref l0), some (.int l1), none] [] h (some (.int r2)) h2 := by
  refine xm_E_s r_X10_words_0 rfl rfl ?_
  refine xm_E_cv [.ref l0] [] r_X10_words_1 rfl rfl (Nat.le_of_ble_eq_true rfl) (xm_rc q1 (by decide)) rfl q0 ?_
  refine xm_E_s r_X10_words_2 rfl rfl ?_
  refine xm_E_f q2 ?_
  refine xm_E_s r_X10_words_3 rfl rfl ?_
  refine xm_E_cs [.int l1] [] r_X10_words_4 rfl rfl rfl (Nat.le_of_ble_eq_true rfl) rfl q3 ?_
  refine xm_E_s r_X10_words_5 rfl rfl ?_
  refine xm_E_f q4 ?_
  refine xm_E_s r_X10_words_8 rfl rfl ?_
  refine xm_E_cv [.ref l0] [] r_X10_words_9 rfl rfl (Nat.le_of_ble_eq_true rfl) (xm_rc q1 (by decide)) rfl q5 ?_
  refine xm_E_s (ls1 := [some (.ref l0), some (.int l1), some (.int r2)]) r_X10_words_10 rfl rfl ?_
  refine xm_E_s r_X10_words_11 rfl rfl ?_
  refine xm_E_s r_X10_words_12 rfl rfl ?_
  refine xm_E_s r_X10_words_13 rfl rfl ?_
  refine xm_E_f q6 ?_
  refine xm_E_s r_X10_words_14 rfl rfl ?_
  refine xm_E_s r_X10_words_15 rfl rfl ?_
  refine xm_E_s r_X10_words_16 rfl rfl ?_
  refine xm_E_t q7 ?_
  refine xm_E_s r_X10_words_17 rfl rfl ?_
  refine xm_E_s r_X10_words_18 rfl rfl ?_
  exact xm_E_iret r_X10_words_21 rfl rfl
theorem p_X10_words_0_4 {X : xm_X} {P : List xm_M} {d : Nat} {h : xm_H} {l0 : Nat} {l1 : Int32} {h0 : xm_H} {r0 : Int32} {h1 : xm_H} {r1 : Int32} {h2 : xm_H} {r2 : Int32} {h3 : xm_H} {r3 : Int32} (q0 : xm_V X P d 78 [.ref l0] h (some (.int r0)) h0) (q1 : X.1[l0]? = some (.inr 9)) (q2 : ¬ (r0 = (0 : Int32))) (q3 : xm_V X P d 127 [.int l1] h0 (some (.int r1)) h1) (q4 : ¬ (r1 = (0 : Int32))) (q5 : xm_V X P d 128 [.ref l0] h1 (some (.int r2)) h2) (q6 : ¬ (r2 = (-1 : Int32))) (q7 : ¬ (l1 = (1 : Int32))) (q8 : xm_V X P d 129 [.int r2] h2 (some (.int r3)) h3) : xm_E X P d co_X10_words 0 [some (.ref l0), some (.int l1), none] [] h (some (.int r3)) h3 := by
  refine xm_E_s r_X10_words_0 rfl rfl ?_
  refine xm_E_cv [.ref l0] [] r_X10_words_1 rfl rfl (Nat.le_of_ble_eq_true rfl) (xm_rc q1 (by decide)) rfl q0 ?_
  refine xm_E_s r_X10_words_2 rfl rfl ?_
  refine xm_E_f q2 ?_
  refine xm_E_s r_X10_words_3 rfl rfl ?_
  refine xm_E_cs [.int l1] [] r_X10_words_4 rfl rfl rfl (Nat.le_of_ble_eq_true rfl) rfl q3 ?_
  refine xm_E_s r_X10_words_5 rfl rfl ?_
  refine xm_E_f q4 ?_
  refine xm_E_s r_X10_words_8 rfl rfl ?_
  refine xm_E_cv [.ref l0] [] r_X10_words_9 rfl rfl (Nat.le_of_ble_eq_true rfl) (xm_rc q1 (by decide)) rfl q5 ?_
  refine xm_E_s (ls1 := [some (.ref l0), some (.int l1), some (.int r2)]) r_X10_words_10 rfl rfl ?_
  refine xm_E_s r_X10_words_11 rfl rfl ?_
  refine xm_E_s r_X10_words_12 rfl rfl ?_
  refine xm_E_s r_X10_words_13 rfl rfl ?_
  refine xm_E_f q6 ?_
  refine xm_E_s r_X10_words_14 rfl rfl ?_
  refine xm_E_s r_X10_words_15 rfl rfl ?_
  refine xm_E_s r_X10_words_16 rfl rfl ?_
  refine xm_E_f q7 ?_
  refine xm_E_s r_X10_words_19 rfl rfl ?_
  refine xm_E_cs [.int r2] [] r_X10_words_20 rfl rfl rfl (Nat.le_of_ble_eq_true rfl) rfl q8 ?_
  exact xm_E_iret r_X10_words_21 rfl rfl
theorem r_X10_isPart_0 : co_X10_isPart[0]? = some ((0, .iload_n 0, 0, 0, 0, 0, 0, 0, []) : xm_I) := rfl
theorem r_X10_isPart_1 : co_X10_isPart[1]? = some ((1, .ifCond .eq 8, 0, 0, 5, 0, 0, 0, []) : xm_I) := rfl
theorem r_X10_isPart_2 : co_X10_isPart[2]? = some ((4, .iload_n 0, 0, 0, 0, 0, 0, 0, []) : xm_I) := rfl
theorem r_X10_isPart_3 : co_X10_isPart[3]? = some ((5, .iconst 1, 0, 0, 0, 0, 1, 0, []) : xm_I) := rfl
theorem r_X10_isPart_4 : co_X10_isPart[4]? = some ((6, .if_icmp .ne 7, 0, 0, 7, 0, 0, 0, []) : xm_I) := rfl
theorem r_X10_isPart_5 : co_X10_isPart[5]? = some ((9, .iconst 1, 0, 0, 0, 0, 1, 0, []) : xm_I) := rfl
theorem r_X10_isPart_6 : co_X10_isPart[6]? = some ((10, .goto 4, 0, 0, 8, 0, 0, 0, []) : xm_I) := rfl
theorem r_X10_isPart_7 : co_X10_isPart[7]? = some ((13, .iconst 0, 0, 0, 0, 0, 0, 0, []) : xm_I) := rfl
theorem r_X10_isPart_8 : co_X10_isPart[8]? = some ((14, .ireturn, 0, 0, 0, 3, 0, 0, []) : xm_I) := rfl
theorem p_X10_isPart_0_0 {X : xm_X} {P : List xm_M} {d : Nat} {h : xm_H} {l0 : Int32} (q0 : l0 = (0 : Int32)) : xm_E X P d co_X10_isPart 0 [some (.int l0)] [] h (some (.int (1 : Int32))) h := by
  refine xm_E_s r_X10_isPart_0 rfl rfl ?_
  refine xm_E_s r_X10_isPart_1 rfl rfl ?_
  refine xm_E_t q0 ?_
  refine xm_E_s r_X10_isPart_5 rfl rfl ?_
  refine xm_E_s r_X10_isPart_6 rfl rfl ?_
  exact xm_E_iret r_X10_isPart_8 rfl rfl
theorem p_X10_isPart_0_1 {X : xm_X} {P : List xm_M} {d : Nat} {h : xm_H} {l0 : Int32} (q0 : ¬ (l0 = (0 : Int32))) (q1 : l0 = (1 : Int32)) : xm_E X P d co_X10_isPart 0 [some (.int l0)] [] h (some (.int (1 : Int32))) h := by
  refine xm_E_s r_X10_isPart_0 rfl rfl ?_
  refine xm_E_s r_X10_isPart_1 rfl rfl ?_
  refine xm_E_f q0 ?_
  refine xm_E_s r_X10_isPart_2 rfl rfl ?_
  refine xm_E_s r_X10_isPart_3 rfl rfl ?_
  refine xm_E_s r_X10_isPart_4 rfl rfl ?_
  refine xm_E_t q1 ?_
  refine xm_E_s r_X10_isPart_5 rfl rfl ?_
  refine xm_E_s r_X10_isPart_6 rfl rfl ?_
  exact xm_E_iret r_X10_isPart_8 rfl rfl
theorem p_X10_isPart_0_2 {X : xm_X} {P : List xm_M} {d : Nat} {h : xm_H} {l0 : Int32} (q0 : ¬ (l0 = (0 : Int32))) (q1 : ¬ (l0 = (1 : Int32))) : xm_E X P d co_X10_isPart 0 [some (.int l0)] [] h (some (.int (0 : Int32))) h := by
  refine xm_E_s r_X10_isPart_0 rfl rfl ?_
  refine xm_E_s r_X10_isPart_1 rfl rfl ?_
  refine xm_E_f q0 ?_
  refine xm_E_s r_X10_isPart_2 rfl rfl ?_
  refine xm_E_s r_X10_isPart_3 rfl rfl ?_
  refine xm_E_s r_X10_isPart_4 rfl rfl ?_
  refine xm_E_f q1 ?_
  refine xm_E_s r_X10_isPart_7 rfl rfl ?_
  exact xm_E_iret r_X10_isPart_8 rfl rfl
theorem r_X10_fewestUnlikeCalls_0 : co_X10_fewestUnlikeCalls[0]? = some ((0, .iconst 1, 0, 0, 0, 0, 1, 0, []) : xm_I) := rfl
theorem r_X10_fewestUnlikeCalls_1 : co_X10_fewestUnlikeCalls[1]? = some ((1, .aload_n 0, 0, 0, 0, 0, 0, 0, []) : xm_I) := rfl
theorem r_X10_fewestUnlikeCalls_2 : co_X10_fewestUnlikeCalls[2]? = some ((2, .getfield 19, 482, 9, 1, 2, 0, 0, []) : xm_I) := rfl
theorem r_X10_fewestUnlikeCalls_3 : co_X10_fewestUnlikeCalls[3]? = some ((5, .getfield 103, 305, 8, 0, 2, 0, 0, []) : xm_I) := rfl
theorem r_X10_fewestUnlikeCalls_4 : co_X10_fewestUnlikeCalls[4]? = some ((8, .getfield 255, 226, 0, 6, 0, 0, 0, []) : xm_I) := rfl
theorem r_X10_fewestUnlikeCalls_5 : co_X10_fewestUnlikeCalls[5]? = some ((11, .ishl, 0, 0, 0, 0, 0, 0, []) : xm_I) := rfl
theorem r_X10_fewestUnlikeCalls_6 : co_X10_fewestUnlikeCalls[6]? = some ((12, .istore_n 1, 0, 0, 0, 0, 0, 0, []) : xm_I) := rfl
theorem r_X10_fewestUnlikeCalls_7 : co_X10_fewestUnlikeCalls[7]? = some ((13, .iconst 0, 0, 0, 0, 0, 0, 0, []) : xm_I) := rfl
theorem r_X10_fewestUnlikeCalls_8 : co_X10_fewestUnlikeCalls[8]? = some ((14, .istore_n 2, 0, 0, 0, 0, 0, 0, []) : xm_I) := rfl
theorem r_X10_fewestUnlikeCalls_9 : co_X10_fewestUnlikeCalls[9]? = some ((15, .iload_n 2, 0, 0, 0, 0, 0, 0, []) : xm_I) := rfl
theorem r_X10_fewestUnlikeCalls_10 : co_X10_fewestUnlikeCalls[10]? = some ((16, .aload_n 0, 0, 0, 0, 0, 0, 0, []) : xm_I) := rfl
theorem r_X10_fewestUnlikeCalls_11 : co_X10_fewestUnlikeCalls[11]? = some ((17, .getfield 19, 482, 9, 1, 2, 0, 0, []) : xm_I) := rfl
theorem r_X10_fewestUnlikeCalls_12 : co_X10_fewestUnlikeCalls[12]? = some ((20, .getfield 103, 305, 8, 0, 2, 0, 0, []) : xm_I) := rfl
theorem r_X10_fewestUnlikeCalls_13 : co_X10_fewestUnlikeCalls[13]? = some ((23, .getfield 255, 226, 0, 6, 0, 0, 0, []) : xm_I) := rfl
theorem r_X10_fewestUnlikeCalls_14 : co_X10_fewestUnlikeCalls[14]? = some ((26, .if_icmp .gt 41, 0, 0, 35, 0, 0, 0, []) : xm_I) := rfl
theorem r_X10_fewestUnlikeCalls_15 : co_X10_fewestUnlikeCalls[15]? = some ((29, .iconst 0, 0, 0, 0, 0, 0, 0, []) : xm_I) := rfl
theorem r_X10_fewestUnlikeCalls_16 : co_X10_fewestUnlikeCalls[16]? = some ((30, .istore_n 3, 0, 0, 0, 0, 0, 0, []) : xm_I) := rfl
theorem r_X10_fewestUnlikeCalls_17 : co_X10_fewestUnlikeCalls[17]? = some ((31, .iload_n 3, 0, 0, 0, 0, 0, 0, []) : xm_I) := rfl
theorem r_X10_fewestUnlikeCalls_18 : co_X10_fewestUnlikeCalls[18]? = some ((32, .iload_n 1, 0, 0, 0, 0, 0, 0, []) : xm_I) := rfl
theorem r_X10_fewestUnlikeCalls_19 : co_X10_fewestUnlikeCalls[19]? = some ((33, .if_icmp .ge 28, 0, 0, 33, 0, 0, 0, []) : xm_I) := rfl
theorem r_X10_fewestUnlikeCalls_20 : co_X10_fewestUnlikeCalls[20]? = some ((36, .iload_n 3, 0, 0, 0, 0, 0, 0, []) : xm_I) := rfl
theorem r_X10_fewestUnlikeCalls_21 : co_X10_fewestUnlikeCalls[21]? = some ((37, .invokestatic 268, 1101, 129, 1, 0, 0, 0, []) : xm_I) := rfl
theorem r_X10_fewestUnlikeCalls_22 : co_X10_fewestUnlikeCalls[22]? = some ((40, .iload_n 2, 0, 0, 0, 0, 0, 0, []) : xm_I) := rfl
theorem r_X10_fewestUnlikeCalls_23 : co_X10_fewestUnlikeCalls[23]? = some ((41, .if_icmp .ne 14, 0, 0, 31, 0, 0, 0, []) : xm_I) := rfl
theorem r_X10_fewestUnlikeCalls_24 : co_X10_fewestUnlikeCalls[24]? = some ((44, .aload_n 0, 0, 0, 0, 0, 0, 0, []) : xm_I) := rfl
theorem r_X10_fewestUnlikeCalls_25 : co_X10_fewestUnlikeCalls[25]? = some ((45, .iload_n 3, 0, 0, 0, 0, 0, 0, []) : xm_I) := rfl
theorem r_X10_fewestUnlikeCalls_26 : co_X10_fewestUnlikeCalls[26]? = some ((46, .invokevirtual 258, 1086, 125, 2, 9, 0, 0, []) : xm_I) := rfl
theorem r_X10_fewestUnlikeCalls_27 : co_X10_fewestUnlikeCalls[27]? = some ((49, .iconst (-1), 0, 0, 0, 0, (-1), 0, []) : xm_I) := rfl
theorem r_X10_fewestUnlikeCalls_28 : co_X10_fewestUnlikeCalls[28]? = some ((50, .if_icmp .eq 5, 0, 0, 31, 0, 0, 0, []) : xm_I) := rfl
theorem r_X10_fewestUnlikeCalls_29 : co_X10_fewestUnlikeCalls[29]? = some ((53, .iload_n 3, 0, 0, 0, 0, 0, 0, []) : xm_I) := rfl
theorem r_X10_fewestUnlikeCalls_30 : co_X10_fewestUnlikeCalls[30]? = some ((54, .ireturn, 0, 0, 0, 0, 0, 0, []) : xm_I) := rfl
theorem r_X10_fewestUnlikeCalls_31 : co_X10_fewestUnlikeCalls[31]? = some ((55, .iinc 3 1, 0, 0, 0, 0, 1, 0, []) : xm_I) := rfl
theorem r_X10_fewestUnlikeCalls_32 : co_X10_fewestUnlikeCalls[32]? = some ((58, .goto (-27), 0, 0, 17, 0, 0, 0, []) : xm_I) := rfl
theorem r_X10_fewestUnlikeCalls_33 : co_X10_fewestUnlikeCalls[33]? = some ((61, .iinc 2 1, 0, 0, 0, 0, 1, 0, []) : xm_I) := rfl
theorem r_X10_fewestUnlikeCalls_34 : co_X10_fewestUnlikeCalls[34]? = some ((64, .goto (-49), 0, 0, 9, 0, 0, 0, []) : xm_I) := rfl
theorem r_X10_fewestUnlikeCalls_35 : co_X10_fewestUnlikeCalls[35]? = some ((67, .iconst (-1), 0, 0, 0, 0, (-1), 0, []) : xm_I) := rfl
theorem r_X10_fewestUnlikeCalls_36 : co_X10_fewestUnlikeCalls[36]? = some ((68, .ireturn, 0, 0, 0, 0, 0, 0, []) : xm_I) := rfl
theorem p_X10_fewestUnlikeCalls_0_0 {X : xm_X} {P : List xm_M} {d : Nat} {h : xm_H} {l0 : Nat} {v0 : Nat} {v1 : Nat} {ro : Option Value} {ho : xm_H} (q0 : X.1[l0]? = some (.inr 9)) (q1 : h.2.2 l0 1 = some v0) (q2 : X.1[v0]? = some (.inr 8)) (q3 : h.2.2 v0 0 = some v1) (q4 : X.1[v1]? = some (.inr 0)) (K : xm_E X P d co_X10_fewestUnlikeCalls 9 [some (.ref l0), some (.int ((1 : Int32) <<< ((h.1 v1 6) &&& 31))), some (.int (0 : Int32)), none] [] h ro ho) : xm_E X P d co_X10_fewestUnlikeCalls 0 [some (.ref l0), none, none, none] [] h ro ho := by
  refine xm_E_s r_X10_fewestUnlikeCalls_0 rfl rfl ?_
  refine xm_E_s r_X10_fewestUnlikeCalls_1 rfl rfl ?_
  refine xm_E_s r_X10_fewestUnlikeCalls_2 rfl (xm_T_gr rfl q0 rfl rfl q1) ?_
  refine xm_E_s r_X10_fewestUnlikeCalls_3 rfl (xm_T_gr rfl q2 rfl rfl q3) ?_
  refine xm_E_s r_X10_fewestUnlikeCalls_4 rfl (xm_T_gi rfl q4 rfl (Or.inl rfl)) ?_
  refine xm_E_s r_X10_fewestUnlikeCalls_5 rfl rfl ?_
  refine xm_E_s (ls1 := [some (.ref l0), some (.int ((1 : Int32) <<< ((h.1 v1 6) &&& 31))), none, none]) r_X10_fewestUnlikeCalls_6 rfl rfl ?_
  refine xm_E_s r_X10_fewestUnlikeCalls_7 rfl rfl ?_
  refine xm_E_s (ls1 := [some (.ref l0), some (.int ((1 : Int32) <<< ((h.1 v1 6) &&& 31))), some (.int (0 : Int32)), none]) r_X10_fewestUnlikeCalls_8 rfl rfl ?_
  exact K
theorem p_X10_fewestUnlikeCalls_9_0 {X : xm_X} {P : List xm_M} {d : Nat} {h : xm_H} {l0 : Nat} {l1 : Int32} {l2 : Int32} {l3 : Option Value} {v0 : Nat} {v1 : Nat} (q0 : X.1[l0]? = some (.inr 9)) (q1 : h.2.2 l0 1 = some v0) (q2 : X.1[v0]? = some (.inr 8)) (q3 : h.2.2 v0 0 = some v1) (q4 : X.1[v1]? = some (.inr 0)) (q5 : h.1 v1 6 < l2) : xm_E X P d co_X10_fewestUnlikeCalls 9 [some (.ref l0), some (.int l1), some (.int l2), l3] [] h (some (.int (-1 : Int32))) h := by
  refine xm_E_s r_X10_fewestUnlikeCalls_9 rfl rfl ?_
  refine xm_E_s r_X10_fewestUnlikeCalls_10 rfl rfl ?_
  refine xm_E_s r_X10_fewestUnlikeCalls_11 rfl (xm_T_gr rfl q0 rfl rfl q1) ?_
  refine xm_E_s r_X10_fewestUnlikeCalls_12 rfl (xm_T_gr rfl q2 rfl rfl q3) ?_
  refine xm_E_s r_X10_fewestUnlikeCalls_13 rfl (xm_T_gi rfl q4 rfl (Or.inl rfl)) ?_
  refine xm_E_s r_X10_fewestUnlikeCalls_14 rfl rfl ?_
  refine xm_E_t q5 ?_
  refine xm_E_s r_X10_fewestUnlikeCalls_35 rfl rfl ?_
  exact xm_E_iret r_X10_fewestUnlikeCalls_36 rfl rfl
theorem p_X10_fewestUnlikeCalls_9_1 {X : xm_X} {P : List xm_M} {d : Nat} {h : xm_H} {l0 : Nat} {l1 : Int32} {l2 : Int32} {l3 : Option Value} {v0 : Nat} {v1 : Nat} {ro : Option Value} {ho : xm_H} (q0 : X.1[l0]? = some (.inr 9)) (q1 : h.2.2 l0 1 = some v0) (q2 : X.1[v0]? = some (.inr 8)) (q3 : h.2.2 v0 0 = some v1) (q4 : X.1[v1]? = some (.inr 0)) (q5 : ¬ (h.1 v1 6 < l2)) (K : xm_E X P d co_X10_fewestUnlikeCalls 17 [some (.ref l0), some (.int l1), some (.int l2), some (.int (0 : Int32))] [] h ro ho) : xm_E X P d co_X10_fewestUnlikeCalls 9 [some (.ref l0), some (.int l1), some (.int l2), l3] [] h ro ho := by
  refine xm_E_s r_X10_fewestUnlikeCalls_9 rfl rfl ?_
  refine xm_E_s r_X10_fewestUnlikeCalls_10 rfl rfl ?_
  refine xm_E_s r_X10_fewestUnlikeCalls_11 rfl (xm_T_gr rfl q0 rfl rfl q1) ?_
  refine xm_E_s r_X10_fewestUnlikeCalls_12 rfl (xm_T_gr rfl q2 rfl rfl q3) ?_
  refine xm_E_s r_X10_fewestUnlikeCalls_13 rfl (xm_T_gi rfl q4 rfl (Or.inl rfl)) ?_
  refine xm_E_s r_X10_fewestUnlikeCalls_14 rfl rfl ?_
  refine xm_E_f q5 ?_
  refine xm_E_s r_X10_fewestUnlikeCalls_15 rfl rfl ?_
  refine xm_E_s (ls1 := [some (.ref l0), some (.int l1), some (.int l2), some (.int (0 : Int32))]) r_X10_fewestUnlikeCalls_16 rfl rfl ?_
  exact K
theorem p_X10_fewestUnlikeCalls_17_0 {X : xm_X} {P : List xm_M} {d : Nat} {h : xm_H} {l0 : Nat} {l1 : Int32} {l2 : Int32} {l3 : Int32} {ro : Option Value} {ho : xm_H} (q0 : l1 ≤ l3) (K : xm_E X P d co_X10_fewestUnlikeCalls 9 [some (.ref l0), some (.int l1), some (.int (l2 + (1 : Int32))), some (.int l3)] [] h ro ho) : xm_E X P d co_X10_fewestUnlikeCalls 17 [some (.ref l0), some (.int l1), some (.int l2), some (.int l3)] [] h ro ho := by
  refine xm_E_s r_X10_fewestUnlikeCalls_17 rfl rfl ?_
  refine xm_E_s r_X10_fewestUnlikeCalls_18 rfl rfl ?_
  refine xm_E_s r_X10_fewestUnlikeCalls_19 rfl rfl ?_
  refine xm_E_t q0 ?_
  refine xm_E_s (ls1 := [some (.ref l0), some (.int l1), some (.int (l2 + (1 : Int32))), some (.int l3)]) r_X10_fewestUnlikeCalls_33 rfl rfl ?_
  refine xm_E_s r_X10_fewestUnlikeCalls_34 rfl rfl ?_
  exact K
theorem p_X10_fewestUnlikeCalls_17_1 {X : xm_X} {P : List xm_M} {d : Nat} {h : xm_H} {l0 : Nat} {l1 : Int32} {l2 : Int32} {l3 : Int32} {h0 : xm_H} {r0 : Int32} {h1 : xm_H} {r1 : Int32} {ro : Option Value} {ho : xm_H} (q0 : ¬ (l1 ≤ l3)) (q1 : xm_V X P d 129 [.int l3] h (some (.int r0)) h0) (q2 : r0 = l2) (q3 : xm_V X P d 125 [.ref l0, .int l3] h0 (some (.int r1)) h1) (q4 : X.1[l0]? = some (.inr 9)) (q5 : r1 = (-1 : Int32)) (K : xm_E X P d co_X10_fewestUnlikeCalls 17 [some (.ref l0), some (.int l1), some (.int l2), some (.int (l3 + (1 : Int32)))] [] h1 ro ho) : xm_E X P d co_X10_fewestUnlikeCalls 17 [some (.ref l0), some (.int l1), some (.int l2), some (.int l3)] [] h ro ho := by
  refine xm_E_s r_X10_fewestUnlikeCalls_17 rfl rfl ?_
  refine xm_E_s r_X10_fewestUnlikeCalls_18 rfl rfl ?_
  refine xm_E_s r_X10_fewestUnlikeCalls_19 rfl rfl ?_
  refine xm_E_f q0 ?_
  refine xm_E_s r_X10_fewestUnlikeCalls_20 rfl rfl ?_
  refine xm_E_cs [.int l3] [] r_X10_fewestUnlikeCalls_21 rfl rfl rfl (Nat.le_of_ble_eq_true rfl) rfl q1 ?_
  refine xm_E_s r_X10_fewestUnlikeCalls_22 rfl rfl ?_
  refine xm_E_s r_X10_fewestUnlikeCalls_23 rfl rfl ?_
  refine xm_E_t q2 ?_
  refine xm_E_s r_X10_fewestUnlikeCalls_24 rfl rfl ?_
  refine xm_E_s r_X10_fewestUnlikeCalls_25 rfl rfl ?_
  refine xm_E_cv [.ref l0, .int l3] [] r_X10_fewestUnlikeCalls_26 rfl rfl (Nat.le_of_ble_eq_true rfl) (xm_rc q4 (by decide)) rfl q3 ?_
  refine xm_E_s r_X10_fewestUnlikeCalls_27 rfl rfl ?_
  refine xm_E_s r_X10_fewestUnlikeCalls_28 rfl rfl ?_
  refine xm_E_t q5 ?_
  refine xm_E_s (ls1 := [some (.ref l0), some (.int l1), some (.int l2), some (.int (l3 + (1 : Int32)))]) r_X10_fewestUnlikeCalls_31 rfl rfl ?_
  refine xm_E_s r_X10_fewestUnlikeCalls_32 rfl rfl ?_
  exact K
theorem p_X10_fewestUnlikeCalls_17_2 {X : xm_X} {P : List xm_M} {d : Nat} {h : xm_H} {l0 : Nat} {l1 : Int32} {l2 : Int32} {l3 : Int32} {h0 : xm_H} {r0 : Int32} {h1 : xm_H} {r1 : Int32} (q0 : ¬ (l1 ≤ l3)) (q1 : xm_V X P d 129 [.int l3] h (some (.int r0)) h0) (q2 : r0 = l2) (q3 : xm_V X P d 125 [.ref l0, .int l3] h0 (some (.int r1)) h1) (q4 : X.1[l0]? = some (.inr 9)) (q5 : ¬ (r1 = (-1 : Int32))) : xm_E X P d co_X10_fewestUnlikeCalls 17 [some (.ref l0), some (.int l1), some (.int l2), some (.int l3)] [] h (some (.int l3)) h1 := by
  refine xm_E_s r_X10_fewestUnlikeCalls_17 rfl rfl ?_
  refine xm_E_s r_X10_fewestUnlikeCalls_18 rfl rfl ?_
  refine xm_E_s r_X10_fewestUnlikeCalls_19 rfl rfl ?_
  refine xm_E_f q0 ?_
  refine xm_E_s r_X10_fewestUnlikeCalls_20 rfl rfl ?_
  refine xm_E_cs [.int l3] [] r_X10_fewestUnlikeCalls_21 rfl rfl rfl (Nat.le_of_ble_eq_true rfl) rfl q1 ?_
  refine xm_E_s r_X10_fewestUnlikeCalls_22 rfl rfl ?_
  refine xm_E_s r_X10_fewestUnlikeCalls_23 rfl rfl ?_
  refine xm_E_t q2 ?_
  refine xm_E_s r_X10_fewestUnlikeCalls_24 rfl rfl ?_
  refine xm_E_s r_X10_fewestUnlikeCalls_25 rfl rfl ?_
  refine xm_E_cv [.ref l0, .int l3] [] r_X10_fewestUnlikeCalls_26 rfl rfl (Nat.le_of_ble_eq_true rfl) (xm_rc q4 (by decide)) rfl q3 ?_
  refine xm_E_s r_X10_fewestUnlikeCalls_27 rfl rfl ?_
  refine xm_E_s r_X10_fewestUnlikeCalls_28 rfl rfl ?_
  refine xm_E_f q5 ?_
  refine xm_E_s r_X10_fewestUnlikeCalls_29 rfl rfl ?_
  exact xm_E_iret r_X10_fewestUnlikeCalls_30 rfl rfl
theorem p_X10_fewestUnlikeCalls_17_3 {X : xm_X} {P : List xm_M} {d : Nat} {h : xm_H} {l0 : Nat} {l1 : Int32} {l2 : Int32} {l3 : Int32} {h0 : xm_H} {r0 : Int32} {ro : Option Value} {ho : xm_H} (q0 : ¬ (l1 ≤ l3)) (q1 : xm_V X P d 129 [.int l3] h (some (.int r0)) h0) (q2 : ¬ (r0 = l2)) (K : xm_E X P d co_X10_fewestUnlikeCalls 17 [some (.ref l0), some (.int l1), some (.int l2), some (.int (l3 + (1 : Int32)))] [] h0 ro ho) : xm_E X P d co_X10_fewestUnlikeCalls 17 [some (.ref l0), some (.int l1), some (.int l2), some (.int l3)] [] h ro ho := by
  refine xm_E_s r_X10_fewestUnlikeCalls_17 rfl rfl ?_
  refine xm_E_s r_X10_fewestUnlikeCalls_18 rfl rfl ?_
  refine xm_E_s r_X10_fewestUnlikeCalls_19 rfl rfl ?_
  refine xm_E_f q0 ?_
  refine xm_E_s r_X10_fewestUnlikeCalls_20 rfl rfl ?_
  refine xm_E_cs [.int l3] [] r_X10_fewestUnlikeCalls_21 rfl rfl rfl (Nat.le_of_ble_eq_true rfl) rfl q1 ?_
  refine xm_E_s r_X10_fewestUnlikeCalls_22 rfl rfl ?_
  refine xm_E_s r_X10_fewestUnlikeCalls_23 rfl rfl ?_
  refine xm_E_f q2 ?_
  refine xm_E_s (ls1 := [some (.ref l0), some (.int l1), some (.int l2), some (.int (l3 + (1 : Int32)))]) r_X10_fewestUnlikeCalls_31 rfl rfl ?_
  refine xm_E_s r_X10_fewestUnlikeCalls_32 rfl rfl ?_
  exact K
end XMPA
