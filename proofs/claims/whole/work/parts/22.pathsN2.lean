/-! Ways through methods, printed by wip/gen/paths.py -/
section XMPA
theorem r_X2_isBelow_0 : co_X2_isBelow[0]? = some ((0, .iconst 0, 0, 0, 0, 0, 0, 0, []) : xm_I) := rfl
theorem r_X2_isBelow_1 : co_X2_isBelow[1]? = some ((1, .istore_n 2, 0, 0, 0, 0, 0, 0, []) : xm_I) := rfl
theorem r_X2_isBelow_2 : co_X2_isBelow[2]? = some ((2, .iload_n 2, 0, 0, 0, 0, 0, 0, []) : xm_I) := rfl
theorem r_X2_isBelow_3 : co_X2_isBelow[3]? = some ((3, .aload_n 0, 0, 0, 0, 0, 0, 0, []) : xm_I) := rfl
theorem r_X2_isBelow_4 : co_X2_isBelow[4]? = some ((4, .getfield 32, 468, 2, 3, 0, 0, 0, []) : xm_I) := rfl
theorem r_X2_isBelow_5 : co_X2_isBelow[5]? = some ((7, .if_icmp .ge 32, 0, 0, 23, 0, 0, 0, []) : xm_I) := rfl
theorem r_X2_isBelow_6 : co_X2_isBelow[6]? = some ((10, .aload_n 0, 0, 0, 0, 0, 0, 0, []) : xm_I) := rfl
theorem r_X2_isBelow_7 : co_X2_isBelow[7]? = some ((11, .iload_n 2, 0, 0, 0, 0, 0, 0, []) : xm_I) := rfl
theorem r_X2_isBelow_8 : co_X2_isBelow[8]? = some ((12, .invokevirtual 45, 839, 70, 2, 2, 0, 0, []) : xm_I) := rfl
theorem r_X2_isBelow_9 : co_X2_isBelow[9]? = some ((15, .lconst 0, 0, 0, 0, 0, 0, 0, []) : xm_I) := rfl
theorem r_X2_isBelow_10 : co_X2_isBelow[10]? = some ((16, .lcmp, 0, 0, 0, 0, 0, 0, []) : xm_I) := rfl
theorem r_X2_isBelow_11 : co_X2_isBelow[11]? = some ((17, .ifCond .lt 14, 0, 0, 19, 0, 0, 0, []) : xm_I) := rfl
theorem r_X2_isBelow_12 : co_X2_isBelow[12]? = some ((20, .aload_n 0, 0, 0, 0, 0, 0, 0, []) : xm_I) := rfl
theorem r_X2_isBelow_13 : co_X2_isBelow[13]? = some ((21, .iload_n 2, 0, 0, 0, 0, 0, 0, []) : xm_I) := rfl
theorem r_X2_isBelow_14 : co_X2_isBelow[14]? = some ((22, .invokevirtual 45, 839, 70, 2, 2, 0, 0, []) : xm_I) := rfl
theorem r_X2_isBelow_15 : co_X2_isBelow[15]? = some ((25, .iload_n 1, 0, 0, 0, 0, 0, 0, []) : xm_I) := rfl
theorem r_X2_isBelow_16 : co_X2_isBelow[16]? = some ((26, .i2l, 0, 0, 0, 0, 0, 0, []) : xm_I) := rfl
theorem r_X2_isBelow_17 : co_X2_isBelow[17]? = some ((27, .lcmp, 0, 0, 0, 0, 0, 0, []) : xm_I) := rfl
theorem r_X2_isBelow_18 : co_X2_isBelow[18]? = some ((28, .ifCond .lt 5, 0, 0, 21, 0, 0, 0, []) : xm_I) := rfl
theorem r_X2_isBelow_19 : co_X2_isBelow[19]? = some ((31, .iconst 0, 0, 0, 0, 0, 0, 0, []) : xm_I) := rfl
theorem r_X2_isBelow_20 : co_X2_isBelow[20]? = some ((32, .ireturn, 0, 0, 0, 3, 0, 0, []) : xm_I) := rfl
theorem r_X2_isBelow_21 : co_X2_isBelow[21]? = some ((33, .iinc 2 1, 0, 0, 0, 0, 1, 0, []) : xm_I) := rfl
theorem r_X2_isBelow_22 : co_X2_isBelow[22]? = some ((36, .goto (-34), 0, 0, 2, 0, 0, 0, []) : xm_I) := rfl
theorem r_X2_isBelow_23 : co_X2_isBelow[23]? = some ((39, .iconst 1, 0, 0, 0, 0, 1, 0, []) : xm_I) := rfl
theorem r_X2_isBelow_24 : co_X2_isBelow[24]? = some ((40, .ireturn, 0, 0, 0, 3, 0, 0, []) : xm_I) := rfl
theorem p_X2_isBelow_0_0 {X : xm_X} {P : List xm_M} {d : Nat} {h : xm_H} {l0 : Nat} {l1 : Int32} {ro : Option Value} {ho : xm_H}  (K : xm_E X P d co_X2_isBelow 2 [some (.ref l0), some (.int l1), some (.int (0 : Int32))] [] h ro ho) : xm_E X P d co_X2_isBelow 0 [some (.ref l0), some (.int l1), none] [] h ro ho := by
  refine xm_E_s r_X2_isBelow_0 rfl rfl ?_
  refine xm_E_s (ls1 := [some (.ref l0), some (.int l1), some (.int (0 : Int32))]) r_X2_isBelow_1 rfl rfl ?_
  exact K
theorem p_X2_isBelow_2_0 {X : xm_X} {P : List xm_M} {d : Nat} {h : xm_H} {l0 : Nat} {l1 : Int32} {l2 : Int32} (q0 : X.1[l0]? = some (.inr 2)) (q1 : h.1 l0 3 ≤ l2) : xm_E X P d co_X2_isBelow 2 [some (.ref l0), some (.int l1), some (.int l2)] [] h (some (.int (1 : Int32))) h := by
  refine xm_E_s r_X2_isBelow_2 rfl rfl ?_
  refine xm_E_s r_X2_isBelow_3 rfl rfl ?_
  refine xm_E_s r_X2_isBelow_4 rfl (xm_T_gi rfl q0 rfl (Or.inl rfl)) ?_
  refine xm_E_s r_X2_isBelow_5 rfl rfl ?_
  refine xm_E_t q1 ?_
  refine xm_E_s r_X2_isBelow_23 rfl rfl ?_
  exact xm_E_iret r_X2_isBelow_24 rfl rfl
theorem p_X2_isBelow_2_1 {X : xm_X} {P : List xm_M} {d : Nat} {h : xm_H} {l0 : Nat} {l1 : Int32} {l2 : Int32} {h0 : xm_H} {r0 : Int64} (q0 : X.1[l0]? = some (.inr 2)) (q1 : ¬ (h.1 l0 3 ≤ l2)) (q2 : xm_V X P d 70 [.ref l0, .int l2] h (some (.long r0)) h0) (q3 : lg_cmp r0 (0 : Int64) < (0 : Int32)) : xm_E X P d co_X2_isBelow 2 [some (.ref l0), some (.int l1), some (.int l2)] [] h (some (.int (0 : Int32))) h0 := by
  refine xm_E_s r_X2_isBelow_2 rfl rfl ?_
  refine xm_E_s r_X2_isBelow_3 rfl rfl ?_
  refine xm_E_s r_X2_isBelow_4 rfl (xm_T_gi rfl q0 rfl (Or.inl rfl)) ?_
  refine xm_E_s r_X2_isBelow_5 rfl rfl ?_
  refine xm_E_f q1 ?_
  refine xm_E_s r_X2_isBelow_6 rfl rfl ?_
  refine xm_E_s r_X2_isBelow_7 rfl rfl ?_
  refine xm_E_cv [.ref l0, .int l2] [] r_X2_isBelow_8 rfl rfl (Nat.le_of_ble_eq_true rfl) (xm_rc q0 (by decide)) rfl q2 ?_
  refine xm_E_s r_X2_isBelow_9 rfl rfl ?_
  refine xm_E_s r_X2_isBelow_10 rfl rfl ?_
  refine xm_E_s r_X2_isBelow_11 rfl rfl ?_
  refine xm_E_t q3 ?_
  refine xm_E_s r_X2_isBelow_19 rfl rfl ?_
  exact xm_E_iret r_X2_isBelow_20 rfl rfl
theorem p_X2_isBelow_2_2 {X : xm_X} {P : List xm_M} {d : Nat} {h : xm_H} {l0 : Nat} {l1 : Int32} {l2 : Int32} {h0 : xm_H} {r0 : Int64} {h1 : xm_H} {r1 : Int64} {ro : Option Value} {ho : xm_H} (q0 : X.1[l0]? = some (.inr 2)) (q1 : ¬ (h.1 l0 3 ≤ l2)) (q2 : xm_V X P d 70 [.ref l0, .int l2] h (some (.long r0)) h0) (q3 : ¬ (lg_cmp r0 (0 : Int64) < (0 : Int32))) (q4 : xm_V X P d 70 [.ref l0, .int l2] h0 (some (.long r1)) h1) (q5 : lg_cmp r1 l1.toInt64 < (0 : Int32)) (K : xm_E X P d co_X2_isBelow 2 [some (.ref l0), some (.int l1), some (.int (l2 + (1 : Int32)))] [] h1 ro ho) : xm_E X P d co_X2_isBelow 2 [some (.ref l0), some (.int l1), some (.int l2)] [] h ro ho := by
  refine xm_E_s r_X2_isBelow_2 rfl rfl ?_
  refine xm_E_s r_X2_isBelow_3 rfl rfl ?_
  refine xm_E_s r_X2_isBelow_4 rfl (xm_T_gi rfl q0 rfl (Or.inl rfl)) ?_
  refine xm_E_s r_X2_isBelow_5 rfl rfl ?_
  refine xm_E_f q1 ?_
  refine xm_E_s r_X2_isBelow_6 rfl rfl ?_
  refine xm_E_s r_X2_isBelow_7 rfl rfl ?_
  refine xm_E_cv [.ref l0, .int l2] [] r_X2_isBelow_8 rfl rfl (Nat.le_of_ble_eq_true rfl) (xm_rc q0 (by decide)) rfl q2 ?_
  refine xm_E_s r_X2_isBelow_9 rfl rfl ?_
  refine xm_E_s r_X2_isBelow_10 rfl rfl ?_
  refine xm_E_s r_X2_isBelow_11 rfl rfl ?_
  refine xm_E_f q3 ?_
  refine xm_E_s r_X2_isBelow_12 rfl rfl ?_
  refine xm_E_s r_X2_isBelow_13 rfl rfl ?_
  refine xm_E_cv [.ref l0, .int l2] [] r_X2_isBelow_14 rfl rfl (Nat.le_of_ble_eq_true rfl) (xm_rc q0 (by decide)) rfl q4 ?_
  refine xm_E_s r_X2_isBelow_15 rfl rfl ?_
  refine xm_E_s r_X2_isBelow_16 rfl rfl ?_
  refine xm_E_s r_X2_isBelow_17 rfl rfl ?_
  refine xm_E_s r_X2_isBelow_18 rfl rfl ?_
  refine xm_E_t q5 ?_
  refine xm_E_s (ls1 := [some (.ref l0), some (.int l1), some (.int (l2 + (1 : Int32)))]) r_X2_isBelow_21 rfl rfl ?_
  refine xm_E_s r_X2_isBelow_22 rfl rfl ?_
  exact K
theorem p_X2_isBelow_2_3 {X : xm_X} {P : List xm_M} {d : Nat} {h : xm_H} {l0 : Nat} {l1 : Int32} {l2 : Int32} {h0 : xm_H} {r0 : Int64} {h1 : xm_H} {r1 : Int64} (q0 : X.1[l0]? = some (.inr 2)) (q1 : ¬ (h.1 l0 3 ≤ l2)) (q2 : xm_V X P d 70 [.ref l0, .int l2] h (some (.long r0)) h0) (q3 : ¬ (lg_cmp r0 (0 : Int64) < (0 : Int32))) (q4 : xm_V X P d 70 [.ref l0, .int l2] h0 (some (.long r1)) h1) (q5 : ¬ (lg_cmp r1 l1.toInt64 < (0 : Int32))) : xm_E X P d co_X2_isBelow 2 [some (.ref l0), some (.int l1), some (.int l2)] [] h (some (.int (0 : Int32))) h1 := by
  refine xm_E_s r_X2_isBelow_2 rfl rfl ?_
  refine xm_E_s r_X2_isBelow_3 rfl rfl ?_
  refine xm_E_s r_X2_isBelow_4 rfl (xm_T_gi rfl q0 rfl (Or.inl rfl)) ?_
  refine xm_E_s r_X2_isBelow_5 rfl rfl ?_
  refine xm_E_f q1 ?_
  refine xm_E_s r_X2_isBelow_6 rfl rfl ?_
  refine xm_E_s r_X2_isBelow_7 rfl rfl ?_
  refine xm_E_cv [.ref l0, .int l2] [] r_X2_isBelow_8 rfl rfl (Nat.le_of_ble_eq_true rfl) (xm_rc q0 (by decide)) rfl q2 ?_
  refine xm_E_s r_X2_isBelow_9 rfl rfl ?_
  refine xm_E_s r_X2_isBelow_10 rfl rfl ?_
  refine xm_E_s r_X2_isBelow_11 rfl rfl ?_
  refine xm_E_f q3 ?_
  refine xm_E_s r_X2_isBelow_12 rfl rfl ?_
  refine xm_E_s r_X2_isBelow_13 rfl rfl ?_
  refine xm_E_cv [.ref l0, .int l2] [] r_X2_isBelow_14 rfl rfl (Nat.le_of_ble_eq_true rfl) (xm_rc q0 (by decide)) rfl q4 ?_
  refine xm_E_s r_X2_isBelow_15 rfl rfl ?_
  refine xm_E_s r_X2_isBelow_16 rfl rfl ?_
  refine xm_E_s r_X2_isBelow_17 rfl rfl ?_
  refine xm_E_s r_X2_isBelow_18 rfl rfl ?_
  refine xm_E_f q5 ?_
  refine xm_E_s r_X2_isBelow_19 rfl rfl ?_
  exact xm_E_iret r_X2_isBelow_20 rfl rfl
theorem r_X2_at_0 : co_X2_at[0]? = some ((0, .iload_n 1, 0, 0, 0, 0, 0, 0, []) : xm_I) := rfl
theorem r_X2_at_1 : co_X2_at[1]? = some ((1, .ifCond .lt 20, 0, 0, 11, 0, 0, 0, []) : xm_I) := rfl
theorem r_X2_at_2 : co_X2_at[2]? = some ((4, .iload_n 1, 0, 0, 0, 0, 0, 0, []) : xm_I) := rfl
theorem r_X2_at_3 : co_X2_at[3]? = some ((5, .aload_n 0, 0, 0, 0, 0, 0, 0, []) : xm_I) := rfl
theorem r_X2_at_4 : co_X2_at[4]? = some ((6, .getfield 32, 468, 2, 3, 0, 0, 0, []) : xm_I) := rfl
theorem r_X2_at_5 : co_X2_at[5]? = some ((9, .if_icmp .ge 12, 0, 0, 11, 0, 0, 0, []) : xm_I) := rfl
theorem r_X2_at_6 : co_X2_at[6]? = some ((12, .aload_n 0, 0, 0, 0, 0, 0, 0, []) : xm_I) := rfl
theorem r_X2_at_7 : co_X2_at[7]? = some ((13, .getfield 9, 462, 2, 0, 2, 0, 0, []) : xm_I) := rfl
theorem r_X2_at_8 : co_X2_at[8]? = some ((16, .iload_n 1, 0, 0, 0, 0, 0, 0, []) : xm_I) := rfl
theorem r_X2_at_9 : co_X2_at[9]? = some ((17, .laload, 0, 0, 0, 0, 0, 0, []) : xm_I) := rfl
theorem r_X2_at_10 : co_X2_at[10]? = some ((18, .goto 4, 0, 0, 12, 0, 0, 0, []) : xm_I) := rfl
theorem r_X2_at_11 : co_X2_at[11]? = some ((21, .lconst 0, 0, 0, 0, 0, 0, 0, []) : xm_I) := rfl
theorem r_X2_at_12 : co_X2_at[12]? = some ((22, .lreturn, 0, 0, 0, 0, 0, 0, []) : xm_I) := rfl
theorem p_X2_at_0_0 {X : xm_X} {P : List xm_M} {d : Nat} {h : xm_H} {l0 : Nat} {l1 : Int32} (q0 : l1 < (0 : Int32)) : xm_E X P d co_X2_at 0 [some (.ref l0), some (.int l1)] [] h (some (.long (0 : Int64))) h := by
  refine xm_E_s r_X2_at_0 rfl rfl ?_
  refine xm_E_s r_X2_at_1 rfl rfl ?_
  refine xm_E_t q0 ?_
  refine xm_E_s r_X2_at_11 rfl rfl ?_
  exact xm_E_lret r_X2_at_12 rfl
theorem p_X2_at_0_1 {X : xm_X} {P : List xm_M} {d : Nat} {h : xm_H} {l0 : Nat} {l1 : Int32} (q0 : ¬ (l1 < (0 : Int32))) (q1 : X.1[l0]? = some (.inr 2)) (q2 : h.1 l0 3 ≤ l1) : xm_E X P d co_X2_at 0 [some (.ref l0), some (.int l1)] [] h (some (.long (0 : Int64))) h := by
  refine xm_E_s r_X2_at_0 rfl rfl ?_
  refine xm_E_s r_X2_at_1 rfl rfl ?_
  refine xm_E_f q0 ?_
  refine xm_E_s r_X2_at_2 rfl rfl ?_
  refine xm_E_s r_X2_at_3 rfl rfl ?_
  refine xm_E_s r_X2_at_4 rfl (xm_T_gi rfl q1 rfl (Or.inl rfl)) ?_
  refine xm_E_s r_X2_at_5 rfl rfl ?_
  refine xm_E_t q2 ?_
  refine xm_E_s r_X2_at_11 rfl rfl ?_
  exact xm_E_lret r_X2_at_12 rfl
theorem p_X2_at_0_2 {X : xm_X} {P : List xm_M} {d : Nat} {h : xm_H} {l0 : Nat} {l1 : Int32} {v0 : Nat} {n1 : Nat} (q0 : ¬ (l1 < (0 : Int32))) (q1 : X.1[l0]? = some (.inr 2)) (q2 : ¬ (h.1 l0 3 ≤ l1)) (q3 : h.2.2 l0 0 = some v0) (q4 : X.1[v0]? = some (.inl (3, n1))) (q5 : ¬ (l1 < 0 ∨ n1 ≤ l1.toNatClampNeg)) : xm_E X P d co_X2_at 0 [some (.ref l0), some (.int l1)] [] h (some (.long (h.2.1 v0 l1.toNatClampNeg))) h := by
  refine xm_E_s r_X2_at_0 rfl rfl ?_
  refine xm_E_s r_X2_at_1 rfl rfl ?_
  refine xm_E_f q0 ?_
  refine xm_E_s r_X2_at_2 rfl rfl ?_
  refine xm_E_s r_X2_at_3 rfl rfl ?_
  refine xm_E_s r_X2_at_4 rfl (xm_T_gi rfl q1 rfl (Or.inl rfl)) ?_
  refine xm_E_s r_X2_at_5 rfl rfl ?_
  refine xm_E_f q2 ?_
  refine xm_E_s r_X2_at_6 rfl rfl ?_
  refine xm_E_s r_X2_at_7 rfl (xm_T_gr rfl q1 rfl rfl q3) ?_
  refine xm_E_s r_X2_at_8 rfl rfl ?_
  refine xm_E_s r_X2_at_9 rfl (xm_T_lald rfl q4 q5) ?_
  refine xm_E_s r_X2_at_10 rfl rfl ?_
  exact xm_E_lret r_X2_at_12 rfl
theorem r_X7_follow_0 : co_X7_follow[0]? = some ((0, .aload_n 0, 0, 0, 0, 0, 0, 0, []) : xm_I) := rfl
theorem r_X7_follow_1 : co_X7_follow[1]? = some ((1, .aload_n 1, 0, 0, 0, 0, 0, 0, []) : xm_I) := rfl
theorem r_X7_follow_2 : co_X7_follow[2]? = some ((2, .invokevirtual 47, 847, 72, 2, 6, 0, 0, []) : xm_I) := rfl
theorem r_X7_follow_3 : co_X7_follow[3]? = some ((5, .iconst 0, 0, 0, 0, 0, 0, 0, []) : xm_I) := rfl
theorem r_X7_follow_4 : co_X7_follow[4]? = some ((6, .istore_n 3, 0, 0, 0, 0, 0, 0, []) : xm_I) := rfl
theorem r_X7_follow_5 : co_X7_follow[5]? = some ((7, .iload_n 3, 0, 0, 0, 0, 0, 0, []) : xm_I) := rfl
theorem r_X7_follow_6 : co_X7_follow[6]? = some ((8, .aload_n 2, 0, 0, 0, 0, 0, 0, []) : xm_I) := rfl
theorem r_X7_follow_7 : co_X7_follow[7]? = some ((9, .getfield 51, 470, 2, 3, 0, 0, 0, []) : xm_I) := rfl
theorem r_X7_follow_8 : co_X7_follow[8]? = some ((12, .if_icmp .ge 27, 0, 0, 21, 0, 0, 0, []) : xm_I) := rfl
theorem r_X7_follow_9 : co_X7_follow[9]? = some ((15, .aload_n 0, 0, 0, 0, 0, 0, 0, []) : xm_I) := rfl
theorem r_X7_follow_10 : co_X7_follow[10]? = some ((16, .aload_n 1, 0, 0, 0, 0, 0, 0, []) : xm_I) := rfl
theorem r_X7_follow_11 : co_X7_follow[11]? = some ((17, .getfield 56, 304, 8, 0, 2, 0, 0, []) : xm_I) := rfl
theorem r_X7_follow_12 : co_X7_follow[12]? = some ((20, .aload_n 2, 0, 0, 0, 0, 0, 0, []) : xm_I) := rfl
theorem r_X7_follow_13 : co_X7_follow[13]? = some ((21, .iload_n 3, 0, 0, 0, 0, 0, 0, []) : xm_I) := rfl
theorem r_X7_follow_14 : co_X7_follow[14]? = some ((22, .invokevirtual 60, 851, 70, 2, 2, 0, 0, []) : xm_I) := rfl
theorem r_X7_follow_15 : co_X7_follow[15]? = some ((25, .l2i, 0, 0, 0, 0, 0, 0, []) : xm_I) := rfl
theorem r_X7_follow_16 : co_X7_follow[16]? = some ((26, .invokevirtual 64, 852, 73, 3, 6, 0, 0, []) : xm_I) := rfl
theorem r_X7_follow_17 : co_X7_follow[17]? = some ((29, .ifCond .ne 4, 0, 0, 19, 0, 0, 0, []) : xm_I) := rfl
theorem r_X7_follow_18 : co_X7_follow[18]? = some ((32, .return_, 0, 0, 0, 0, 0, 0, []) : xm_I) := rfl
theorem r_X7_follow_19 : co_X7_follow[19]? = some ((33, .iinc 3 1, 0, 0, 0, 0, 1, 0, []) : xm_I) := rfl
theorem r_X7_follow_20 : co_X7_follow[20]? = some ((36, .goto (-29), 0, 0, 5, 0, 0, 0, []) : xm_I) := rfl
theorem r_X7_follow_21 : co_X7_follow[21]? = some ((39, .return_, 0, 0, 0, 0, 0, 0, []) : xm_I) := rfl
theorem p_X7_follow_0_0 {X : xm_X} {P : List xm_M} {d : Nat} {h : xm_H} {l0 : Nat} {l1 : Nat} {l2 : Nat} {h0 : xm_H} {ro : Option Value} {ho : xm_H} (q0 : xm_V X P d 72 [.ref l0, .ref l1] h none h0) (q1 : X.1[l0]? = some (.inr 6)) (K : xm_E X P d co_X7_follow 5 [some (.ref l0), some (.ref l1), some (.ref l2), some (.int (0 : Int32))] [] h0 ro ho) : xm_E X P d co_X7_follow 0 [some (.ref l0), some (.ref l1), some (.ref l2), none] [] h ro ho := by
  refine xm_E_s r_X7_follow_0 rfl rfl ?_
  refine xm_E_s r_X7_follow_1 rfl rfl ?_
  refine xm_E_cv [.ref l0, .ref l1] [] r_X7_follow_2 rfl rfl (Nat.le_of_ble_eq_true rfl) (xm_rc q1 (by decide)) rfl q0 ?_
  refine xm_E_s r_X7_follow_3 rfl rfl ?_
  refine xm_E_s (ls1 := [some (.ref l0), some (.ref l1), some (.ref l2), some (.int (0 : Int32))]) r_X7_follow_4 rfl rfl ?_
  exact K
theorem p_X7_follow_5_0 {X : xm_X} {P : List xm_M} {d : Nat} {h : xm_H} {l0 : Nat} {l1 : Nat} {l2 : Nat} {l3 : Int32} (q0 : X.1[l2]? = some (.inr 2)) (q1 : h.1 l2 3 ≤ l3) : xm_E X P d co_X7_follow 5 [some (.ref l0), some (.ref l1), some (.ref l2), some (.int l3)] [] h none h := by
  refine xm_E_s r_X7_follow_5 rfl rfl ?_
  refine xm_E_s r_X7_follow_6 rfl rfl ?_
  refine xm_E_s r_X7_follow_7 rfl (xm_T_gi rfl q0 rfl (Or.inl rfl)) ?_
  refine xm_E_s r_X7_follow_8 rfl rfl ?_
  refine xm_E_t q1 ?_
  exact xm_E_ret r_X7_follow_21 rfl
theorem p_X7_follow_5_1 {X : xm_X} {P : List xm_M} {d : Nat} {h : xm_H} {l0 : Nat} {l1 : Nat} {l2 : Nat} {l3 : Int32} {v0 : Nat} {h1 : xm_H} {r1 : Int64} {h2 : xm_H} {r2 : Int32} (q0 : X.1[l2]? = some (.inr 2)) (q1 : ¬ (h.1 l2 3 ≤ l3)) (q2 : X.1[l1]? = some (.inr 8)) (q3 : h.2.2 l1 0 = some v0) (q4 : xm_V X P d 70 [.ref l2, .int l3] h (some (.long r1)) h1) (q5 : xm_V X P d 73 [.ref l0, .ref v0, .int r1.toInt32] h1 (some (.int r2)) h2) (q6 : X.1[l0]? = some (.inr 6)) (q7 : r2 = (0 : Int32)) : xm_E X P d co_X7_follow 5 [some (.ref l0), some (.ref l1), some (.ref l2), some (.int l3)] [] h none h2 := by
  refine xm_E_s r_X7_follow_5 rfl rfl ?_
  refine xm_E_s r_X7_follow_6 rfl rfl ?_
  refine xm_E_s r_X7_follow_7 rfl (xm_T_gi rfl q0 rfl (Or.inl rfl)) ?_
  refine xm_E_s r_X7_follow_8 rfl rfl ?_
  refine xm_E_f q1 ?_
  refine xm_E_s r_X7_follow_9 rfl rfl ?_
  refine xm_E_s r_X7_follow_10 rfl rfl ?_
  refine xm_E_s r_X7_follow_11 rfl (xm_T_gr rfl q2 rfl rfl q3) ?_
  refine xm_E_s r_X7_follow_12 rfl rfl ?_
  refine xm_E_s r_X7_follow_13 rfl rfl ?_
  refine xm_E_cv [.ref l2, .int l3] [.ref v0, .ref l0] r_X7_follow_14 rfl rfl (Nat.le_of_ble_eq_true rfl) (xm_rc q0 (by decide)) rfl q4 ?_
  refine xm_E_s r_X7_follow_15 rfl rfl ?_
  refine xm_E_cv [.ref l0, .ref v0, .int r1.toInt32] [] r_X7_follow_16 rfl rfl (Nat.le_of_ble_eq_true rfl) (xm_rc q6 (by decide)) rfl q5 ?_
  refine xm_E_s r_X7_follow_17 rfl rfl ?_
  refine xm_E_t q7 ?_
  exact xm_E_ret r_X7_follow_18 rfl
theorem p_X7_follow_5_2 {X : xm_X} {P : List xm_M} {d : Nat} {h : xm_H} {l0 : Nat} {l1 : Nat} {l2 : Nat} {l3 : Int32} {v0 : Nat} {h1 : xm_H} {r1 : Int64} {h2 : xm_H} {r2 : Int32} {ro : Option Value} {ho : xm_H} (q0 : X.1[l2]? = some (.inr 2)) (q1 : ¬ (h.1 l2 3 ≤ l3)) (q2 : X.1[l1]? = some (.inr 8)) (q3 : h.2.2 l1 0 = some v0) (q4 : xm_V X P d 70 [.ref l2, .int l3] h (some (.long r1)) h1) (q5 : xm_V X P d 73 [.ref l0, .ref v0, .int r1.toInt32] h1 (some (.int r2)) h2) (q6 : X.1[l0]? = some (.inr 6)) (q7 : ¬ (r2 = (0 : Int32))) (K : xm_E X P d co_X7_follow 5 [some (.ref l0), some (.ref l1), some (.ref l2), some (.int (l3 + (1 : Int32)))] [] h2 ro ho) : xm_E X P d co_X7_follow 5 [some (.ref l0), some (.ref l1), some (.ref l2), some (.int l3)] [] h ro ho := by
  refine xm_E_s r_X7_follow_5 rfl rfl ?_
  refine xm_E_s r_X7_follow_6 rfl rfl ?_
  refine xm_E_s r_X7_follow_7 rfl (xm_T_gi rfl q0 rfl (Or.inl rfl)) ?_
  refine xm_E_s r_X7_follow_8 rfl rfl ?_
  refine xm_E_f q1 ?_
  refine xm_E_s r_X7_follow_9 rfl rfl ?_
  refine xm_E_s r_X7_follow_10 rfl rfl ?_
  refine xm_E_s r_X7_follow_11 rfl (xm_T_gr rfl q2 rfl rfl q3) ?_
  refine xm_E_s r_X7_follow_12 rfl rfl ?_
  refine xm_E_s r_X7_follow_13 rfl rfl ?_
  refine xm_E_cv [.ref l2, .int l3] [.ref v0, .ref l0] r_X7_follow_14 rfl rfl (Nat.le_of_ble_eq_true rfl) (xm_rc q0 (by decide)) rfl q4 ?_
  refine xm_E_s r_X7_follow_15 rfl rfl ?_
  refine xm_E_cv [.ref l0, .ref v0, .int r1.toInt32] [] r_X7_follow_16 rfl rfl (Nat.le_of_ble_eq_true rfl) (xm_rc q6 (by decide)) rfl q5 ?_
  refine xm_E_s r_X7_follow_17 rfl rfl ?_
  refine xm_E_f q7 ?_
  refine xm_E_s (ls1 := [some (.ref l0), some (.ref l1), some (.ref l2), some (.int (l3 + (1 : Int32)))]) r_X7_follow_19 rfl rfl ?_
  refine xm_E_s r_X7_follow_20 rfl rfl ?_
  exact K
theorem r_X7_begin_0 : co_X7_begin[0]? = some ((0, .aload_n 0, 0, 0, 0, 0, 0, 0, []) : xm_I) := rfl
theorem r_X7_begin_1 : co_X7_begin[1]? = some ((1, .aload_n 1, 0, 0, 0, 0, 0, 0, []) : xm_I) := rfl
theorem r_X7_begin_2 : co_X7_begin[2]? = some ((2, .getfield 9, 309, 8, 3, 0, 0, 0, []) : xm_I) := rfl
theorem r_X7_begin_3 : co_X7_begin[3]? = some ((5, .putfield 15, 398, 6, 0, 0, 0, 0, []) : xm_I) := rfl
theorem r_X7_begin_4 : co_X7_begin[4]? = some ((8, .aload_n 0, 0, 0, 0, 0, 0, 0, []) : xm_I) := rfl
theorem r_X7_begin_5 : co_X7_begin[5]? = some ((9, .aload_n 1, 0, 0, 0, 0, 0, 0, []) : xm_I) := rfl
theorem r_X7_begin_6 : co_X7_begin[6]? = some ((10, .getfield 18, 312, 8, 4, 0, 0, 0, []) : xm_I) := rfl
theorem r_X7_begin_7 : co_X7_begin[7]? = some ((13, .putfield 21, 400, 6, 1, 0, 0, 0, []) : xm_I) := rfl
theorem r_X7_begin_8 : co_X7_begin[8]? = some ((16, .aload_n 0, 0, 0, 0, 0, 0, 0, []) : xm_I) := rfl
theorem r_X7_begin_9 : co_X7_begin[9]? = some ((17, .iconst 0, 0, 0, 0, 0, 0, 0, []) : xm_I) := rfl
theorem r_X7_begin_10 : co_X7_begin[10]? = some ((18, .putfield 22, 402, 6, 2, 0, 0, 0, []) : xm_I) := rfl
theorem r_X7_begin_11 : co_X7_begin[11]? = some ((21, .aload_n 0, 0, 0, 0, 0, 0, 0, []) : xm_I) := rfl
theorem r_X7_begin_12 : co_X7_begin[12]? = some ((22, .iconst 0, 0, 0, 0, 0, 0, 0, []) : xm_I) := rfl
theorem r_X7_begin_13 : co_X7_begin[13]? = some ((23, .putfield 25, 404, 6, 3, 0, 0, 0, []) : xm_I) := rfl
theorem r_X7_begin_14 : co_X7_begin[14]? = some ((26, .return_, 0, 0, 0, 0, 0, 0, []) : xm_I) := rfl
theorem p_X7_begin_0_0 {X : xm_X} {P : List xm_M} {d : Nat} {h : xm_H} {l0 : Nat} {l1 : Nat} (q0 : X.1[l1]? = some (.inr 8)) (q1 : X.1[l0]? = some (.inr 6)) : xm_E X P d co_X7_begin 0 [some (.ref l0), some (.ref l1)] [] h none (xm_si (xm_si (xm_si (xm_si h l0 0 (h.1 l1 3)) l0 1 ((xm_si h l0 0 (h.1 l1 3)).1 l1 4)) l0 2 (0 : Int32)) l0 3 (0 : Int32)) := by
  refine xm_E_s r_X7_begin_0 rfl rfl ?_
  refine xm_E_s r_X7_begin_1 rfl rfl ?_
  refine xm_E_s r_X7_begin_2 rfl (xm_T_gi rfl q0 rfl (Or.inl rfl)) ?_
  refine xm_E_s r_X7_begin_3 rfl (xm_T_pi rfl q1 rfl rfl) ?_
  refine xm_E_s r_X7_begin_4 rfl rfl ?_
  refine xm_E_s r_X7_begin_5 rfl rfl ?_
  refine xm_E_s r_X7_begin_6 rfl (xm_T_gi rfl q0 rfl (Or.inl rfl)) ?_
  refine xm_E_s r_X7_begin_7 rfl (xm_T_pi rfl q1 rfl rfl) ?_
  refine xm_E_s r_X7_begin_8 rfl rfl ?_
  refine xm_E_s r_X7_begin_9 rfl rfl ?_
  refine xm_E_s r_X7_begin_10 rfl (xm_T_pi rfl q1 rfl rfl) ?_
  refine xm_E_s r_X7_begin_11 rfl rfl ?_
  refine xm_E_s r_X7_begin_12 rfl rfl ?_
  refine xm_E_s r_X7_begin_13 rfl (xm_T_pi rfl q1 rfl rfl) ?_
  exact xm_E_ret r_X7_begin_14 rfl
theorem r_X7_tryAct_0 : co_X7_tryAct[0]? = some ((0, .aload_n 0, 0, 0, 0, 0, 0, 0, []) : xm_I) := rfl
theorem r_X7_tryAct_1 : co_X7_tryAct[1]? = some ((1, .getfield 15, 398, 6, 0, 0, 0, 0, []) : xm_I) := rfl
theorem r_X7_tryAct_2 : co_X7_tryAct[2]? = some ((4, .iload_n 2, 0, 0, 0, 0, 0, 0, []) : xm_I) := rfl
theorem r_X7_tryAct_3 : co_X7_tryAct[3]? = some ((5, .aload_n 1, 0, 0, 0, 0, 0, 0, []) : xm_I) := rfl
theorem r_X7_tryAct_4 : co_X7_tryAct[4]? = some ((6, .getfield 28, 217, 0, 4, 0, 0, 0, []) : xm_I) := rfl
theorem r_X7_tryAct_5 : co_X7_tryAct[5]? = some ((9, .invokestatic 33, 856, 47, 3, 0, 0, 0, []) : xm_I) := rfl
theorem r_X7_tryAct_6 : co_X7_tryAct[6]? = some ((12, .ifCond .ne 5, 0, 0, 9, 0, 0, 0, []) : xm_I) := rfl
theorem r_X7_tryAct_7 : co_X7_tryAct[7]? = some ((15, .iconst 0, 0, 0, 0, 0, 0, 0, []) : xm_I) := rfl
theorem r_X7_tryAct_8 : co_X7_tryAct[8]? = some ((16, .ireturn, 0, 0, 0, 3, 0, 0, []) : xm_I) := rfl
theorem r_X7_tryAct_9 : co_X7_tryAct[9]? = some ((17, .aload_n 0, 0, 0, 0, 0, 0, 0, []) : xm_I) := rfl
theorem r_X7_tryAct_10 : co_X7_tryAct[10]? = some ((18, .aload_n 0, 0, 0, 0, 0, 0, 0, []) : xm_I) := rfl
theorem r_X7_tryAct_11 : co_X7_tryAct[11]? = some ((19, .getfield 15, 398, 6, 0, 0, 0, 0, []) : xm_I) := rfl
theorem r_X7_tryAct_12 : co_X7_tryAct[12]? = some ((22, .iload_n 2, 0, 0, 0, 0, 0, 0, []) : xm_I) := rfl
theorem r_X7_tryAct_13 : co_X7_tryAct[13]? = some ((23, .invokestatic 39, 857, 52, 2, 0, 0, 0, []) : xm_I) := rfl
theorem r_X7_tryAct_14 : co_X7_tryAct[14]? = some ((26, .putfield 15, 398, 6, 0, 0, 0, 0, []) : xm_I) := rfl
theorem r_X7_tryAct_15 : co_X7_tryAct[15]? = some ((29, .aload_n 0, 0, 0, 0, 0, 0, 0, []) : xm_I) := rfl
theorem r_X7_tryAct_16 : co_X7_tryAct[16]? = some ((30, .dup, 0, 0, 0, 0, 0, 0, []) : xm_I) := rfl
theorem r_X7_tryAct_17 : co_X7_tryAct[17]? = some ((31, .getfield 21, 400, 6, 1, 0, 0, 0, []) : xm_I) := rfl
theorem r_X7_tryAct_18 : co_X7_tryAct[18]? = some ((34, .aload_n 1, 0, 0, 0, 0, 0, 0, []) : xm_I) := rfl
theorem r_X7_tryAct_19 : co_X7_tryAct[19]? = some ((35, .iload_n 2, 0, 0, 0, 0, 0, 0, []) : xm_I) := rfl
theorem r_X7_tryAct_20 : co_X7_tryAct[20]? = some ((36, .invokevirtual 43, 858, 54, 2, 0, 0, 0, []) : xm_I) := rfl
theorem r_X7_tryAct_21 : co_X7_tryAct[21]? = some ((39, .iadd, 0, 0, 0, 0, 0, 0, []) : xm_I) := rfl
theorem r_X7_tryAct_22 : co_X7_tryAct[22]? = some ((40, .putfield 21, 400, 6, 1, 0, 0, 0, []) : xm_I) := rfl
theorem r_X7_tryAct_23 : co_X7_tryAct[23]? = some ((43, .aload_n 0, 0, 0, 0, 0, 0, 0, []) : xm_I) := rfl
theorem r_X7_tryAct_24 : co_X7_tryAct[24]? = some ((44, .dup, 0, 0, 0, 0, 0, 0, []) : xm_I) := rfl
theorem r_X7_tryAct_25 : co_X7_tryAct[25]? = some ((45, .getfield 22, 402, 6, 2, 0, 0, 0, []) : xm_I) := rfl
theorem r_X7_tryAct_26 : co_X7_tryAct[26]? = some ((48, .iconst 1, 0, 0, 0, 0, 1, 0, []) : xm_I) := rfl
theorem r_X7_tryAct_27 : co_X7_tryAct[27]? = some ((49, .iadd, 0, 0, 0, 0, 0, 0, []) : xm_I) := rfl
theorem r_X7_tryAct_28 : co_X7_tryAct[28]? = some ((50, .putfield 22, 402, 6, 2, 0, 0, 0, []) : xm_I) := rfl
theorem r_X7_tryAct_29 : co_X7_tryAct[29]? = some ((53, .iconst 1, 0, 0, 0, 0, 1, 0, []) : xm_I) := rfl
theorem r_X7_tryAct_30 : co_X7_tryAct[30]? = some ((54, .ireturn, 0, 0, 0, 3, 0, 0, []) : xm_I) := rfl
theorem p_X7_tryAct_0_0 {X : xm_X} {P : List xm_M} {d : Nat} {h : xm_H} {l0 : Nat} {l1 : Nat} {l2 : Int32} {h0 : xm_H} {r0 : Int32} (q0 : X.1[l0]? = some (.inr 6)) (q1 : X.1[l1]? = some (.inr 0)) (q2 : xm_V X P d 47 [.int (h.1 l0 0), .int l2, .int (h.1 l1 4)] h (some (.int r0)) h0) (q3 : r0 = (0 : Int32)) : xm_E X P d co_X7_tryAct 0 [some (.ref l0), some (.ref l1), some (.int l2)] [] h (some (.int (0 : Int32))) h0 := by
  refine xm_E_s r_X7_tryAct_0 rfl rfl ?_
  refine xm_E_s r_X7_tryAct_1 rfl (xm_T_gi rfl q0 rfl (Or.inl rfl)) ?_
  refine xm_E_s r_X7_tryAct_2 rfl rfl ?_
  refine xm_E_s r_X7_tryAct_3 rfl rfl ?_
  refine xm_E_s r_X7_tryAct_4 rfl (xm_T_gi rfl q1 rfl (Or.inl rfl)) ?_
  refine xm_E_cs [.int (h.1 l0 0), .int l2, .int (h.1 l1 4)] [] r_X7_tryAct_5 rfl rfl rfl (Nat.le_of_ble_eq_true rfl) rfl q2 ?_
  refine xm_E_s r_X7_tryAct_6 rfl rfl ?_
  refine xm_E_t q3 ?_
  refine xm_E_s r_X7_tryAct_7 rfl rfl ?_
  exact xm_E_iret r_X7_tryAct_8 rfl rfl
theorem p_X7_tryAct_0_1 {X : xm_X} {P : List xm_M} {d : Nat} {h : xm_H} {l0 : Nat} {l1 : Nat} {l2 : Int32} {h0 : xm_H} {r0 : Int32} {h1 : xm_H} {r1 : Int32} {h2 : xm_H} {r2 : Int32} (q0 : X.1[l0]? = some (.inr 6)) (q1 : X.1[l1]? = some (.inr 0)) (q2 : xm_V X P d 47 [.int (h.1 l0 0), .int l2, .int (h.1 l1 4)] h (some (.int r0)) h0) (q3 : ¬ (r0 = (0 : Int32))) (q4 : xm_V X P d 52 [.int (h0.1 l0 0), .int l2] h0 (some (.int r1)) h1) (q5 : xm_V X P d 54 [.ref l1, .int l2] (xm_si h1 l0 0 r1) (some (.int r2)) h2) : xm_E X P d co_X7_tryAct 0 [some (.ref l0), some (.ref l1), some (.int l2)] [] h (some (.int (1 : Int32))) (xm_si (xm_si h2 l0 1 (((xm_si h1 l0 0 r1).1 l0 1) + r2)) l0 2 (((xm_si h2 l0 1 (((xm_si h1 l0 0 r1).1 l0 1) + r2)).1 l0 2) + (1 : Int32))) := by
  refine xm_E_s r_X7_tryAct_0 rfl rfl ?_
  refine xm_E_s r_X7_tryAct_1 rfl (xm_T_gi rfl q0 rfl (Or.inl rfl)) ?_
  refine xm_E_s r_X7_tryAct_2 rfl rfl ?_
  refine xm_E_s r_X7_tryAct_3 rfl rfl ?_
  refine xm_E_s r_X7_tryAct_4 rfl (xm_T_gi rfl q1 rfl (Or.inl rfl)) ?_
  refine xm_E_cs [.int (h.1 l0 0), .int l2, .int (h.1 l1 4)] [] r_X7_tryAct_5 rfl rfl rfl (Nat.le_of_ble_eq_true rfl) rfl q2 ?_
  refine xm_E_s r_X7_tryAct_6 rfl rfl ?_
  refine xm_E_f q3 ?_
  refine xm_E_s r_X7_tryAct_9 rfl rfl ?_
  refine xm_E_s r_X7_tryAct_10 rfl rfl ?_
  refine xm_E_s r_X7_tryAct_11 rfl (xm_T_gi rfl q0 rfl (Or.inl rfl)) ?_
  refine xm_E_s r_X7_tryAct_12 rfl rfl ?_
  refine xm_E_cs [.int (h0.1 l0 0), .int l2] [.ref l0] r_X7_tryAct_13 rfl rfl rfl (Nat.le_of_ble_eq_true rfl) rfl q4 ?_
  refine xm_E_s r_X7_tryAct_14 rfl (xm_T_pi rfl q0 rfl rfl) ?_
  refine xm_E_s r_X7_tryAct_15 rfl rfl ?_
  refine xm_E_s r_X7_tryAct_16 rfl rfl ?_
  refine xm_E_s r_X7_tryAct_17 rfl (xm_T_gi rfl q0 rfl (Or.inl rfl)) ?_
  refine xm_E_s r_X7_tryAct_18 rfl rfl ?_
  refine xm_E_s r_X7_tryAct_19 rfl rfl ?_
  refine xm_E_cv [.ref l1, .int l2] [.int ((xm_si h1 l0 0 r1).1 l0 1), .ref l0] r_X7_tryAct_20 rfl rfl (Nat.le_of_ble_eq_true rfl) (xm_rc q1 (by decide)) rfl q5 ?_
  refine xm_E_s r_X7_tryAct_21 rfl rfl ?_
  refine xm_E_s r_X7_tryAct_22 rfl (xm_T_pi rfl q0 rfl rfl) ?_
  refine xm_E_s r_X7_tryAct_23 rfl rfl ?_
  refine xm_E_s r_X7_tryAct_24 rfl rfl ?_
  refine xm_E_s r_X7_tryAct_25 rfl (xm_T_gi rfl q0 rfl (Or.inl rfl)) ?_
  refine xm_E_s r_X7_tryAct_26 rfl rfl ?_
  refine xm_E_s r_X7_tryAct_27 rfl rfl ?_
  refine xm_E_s r_X7_tryAct_28 rfl (xm_T_pi rfl q0 rfl rfl) ?_
  refine xm_E_s r_X7_tryAct_29 rfl rfl ?_
  exact xm_E_iret r_X7_tryAct_30 rfl rfl
theorem r_X8_isMade_0 : co_X8_isMade[0]? = some ((0, .aload_n 0, 0, 0, 0, 0, 0, 0, []) : xm_I) := rfl
theorem r_X8_isMade_1 : co_X8_isMade[1]? = some ((1, .getfield 7, 188, 7, 0, 0, 0, 0, []) : xm_I) := rfl
theorem r_X8_isMade_2 : co_X8_isMade[2]? = some ((4, .ifCond .le 7, 0, 0, 5, 0, 0, 0, []) : xm_I) := rfl
theorem r_X8_isMade_3 : co_X8_isMade[3]? = some ((7, .iconst 1, 0, 0, 0, 0, 1, 0, []) : xm_I) := rfl
theorem r_X8_isMade_4 : co_X8_isMade[4]? = some ((8, .goto 4, 0, 0, 6, 0, 0, 0, []) : xm_I) := rfl
theorem r_X8_isMade_5 : co_X8_isMade[5]? = some ((11, .iconst 0, 0, 0, 0, 0, 0, 0, []) : xm_I) := rfl
theorem r_X8_isMade_6 : co_X8_isMade[6]? = some ((12, .ireturn, 0, 0, 0, 3, 0, 0, []) : xm_I) := rfl
theorem p_X8_isMade_0_0 {X : xm_X} {P : List xm_M} {d : Nat} {h : xm_H} {l0 : Nat} (q0 : X.1[l0]? = some (.inr 7)) (q1 : h.1 l0 0 ≤ (0 : Int32)) : xm_E X P d co_X8_isMade 0 [some (.ref l0)] [] h (some (.int (0 : Int32))) h := by
  refine xm_E_s r_X8_isMade_0 rfl rfl ?_
  refine xm_E_s r_X8_isMade_1 rfl (xm_T_gi rfl q0 rfl (Or.inl rfl)) ?_
  refine xm_E_s r_X8_isMade_2 rfl rfl ?_
  refine xm_E_t q1 ?_
  refine xm_E_s r_X8_isMade_5 rfl rfl ?_
  exact xm_E_iret r_X8_isMade_6 rfl rfl
theorem p_X8_isMade_0_1 {X : xm_X} {P : List xm_M} {d : Nat} {h : xm_H} {l0 : Nat} (q0 : X.1[l0]? = some (.inr 7)) (q1 : ¬ (h.1 l0 0 ≤ (0 : Int32))) : xm_E X P d co_X8_isMade 0 [some (.ref l0)] [] h (some (.int (1 : Int32))) h := by
  refine xm_E_s r_X8_isMade_0 rfl rfl ?_
  refine xm_E_s r_X8_isMade_1 rfl (xm_T_gi rfl q0 rfl (Or.inl rfl)) ?_
  refine xm_E_s r_X8_isMade_2 rfl rfl ?_
  refine xm_E_f q1 ?_
  refine xm_E_s r_X8_isMade_3 rfl rfl ?_
  refine xm_E_s r_X8_isMade_4 rfl rfl ?_
  exact xm_E_iret r_X8_isMade_6 rfl rfl
theorem r_X8_isMetBy_0 : co_X8_isMetBy[0]? = some ((0, .iload_n 1, 0, 0, 0, 0, 0, 0, []) : xm_I) := rfl
theorem r_X8_isMetBy_1 : co_X8_isMetBy[1]? = some ((1, .invokestatic 13, 924, 38, 1, 0, 0, 0, []) : xm_I) := rfl
theorem r_X8_isMetBy_2 : co_X8_isMetBy[2]? = some ((4, .aload_n 0, 0, 0, 0, 0, 0, 0, []) : xm_I) := rfl
theorem r_X8_isMetBy_3 : co_X8_isMetBy[3]? = some ((5, .getfield 7, 188, 7, 0, 0, 0, 0, []) : xm_I) := rfl
theorem r_X8_isMetBy_4 : co_X8_isMetBy[4]? = some ((8, .if_icmp .ne 63, 0, 0, 33, 0, 0, 0, []) : xm_I) := rfl
theorem r_X8_isMetBy_5 : co_X8_isMetBy[5]? = some ((11, .iload_n 1, 0, 0, 0, 0, 0, 0, []) : xm_I) := rfl
theorem r_X8_isMetBy_6 : co_X8_isMetBy[6]? = some ((12, .invokestatic 19, 925, 39, 1, 0, 0, 0, []) : xm_I) := rfl
theorem r_X8_isMetBy_7 : co_X8_isMetBy[7]? = some ((15, .aload_n 0, 0, 0, 0, 0, 0, 0, []) : xm_I) := rfl
theorem r_X8_isMetBy_8 : co_X8_isMetBy[8]? = some ((16, .getfield 22, 191, 7, 1, 0, 0, 0, []) : xm_I) := rfl
theorem r_X8_isMetBy_9 : co_X8_isMetBy[9]? = some ((19, .if_icmp .ne 52, 0, 0, 33, 0, 0, 0, []) : xm_I) := rfl
theorem r_X8_isMetBy_10 : co_X8_isMetBy[10]? = some ((22, .iload_n 1, 0, 0, 0, 0, 0, 0, []) : xm_I) := rfl
theorem r_X8_isMetBy_11 : co_X8_isMetBy[11]? = some ((23, .invokestatic 25, 926, 42, 1, 0, 0, 0, []) : xm_I) := rfl
theorem r_X8_isMetBy_12 : co_X8_isMetBy[12]? = some ((26, .ifCond .ne 45, 0, 0, 33, 0, 0, 0, []) : xm_I) := rfl
theorem r_X8_isMetBy_13 : co_X8_isMetBy[13]? = some ((29, .aload_n 0, 0, 0, 0, 0, 0, 0, []) : xm_I) := rfl
theorem r_X8_isMetBy_14 : co_X8_isMetBy[14]? = some ((30, .getfield 28, 193, 7, 2, 0, 0, 0, []) : xm_I) := rfl
theorem r_X8_isMetBy_15 : co_X8_isMetBy[15]? = some ((33, .iconst 2, 0, 0, 0, 0, 2, 0, []) : xm_I) := rfl
theorem r_X8_isMetBy_16 : co_X8_isMetBy[16]? = some ((34, .if_icmp .eq 14, 0, 0, 22, 0, 0, 0, []) : xm_I) := rfl
theorem r_X8_isMetBy_17 : co_X8_isMetBy[17]? = some ((37, .iload_n 1, 0, 0, 0, 0, 0, 0, []) : xm_I) := rfl
theorem r_X8_isMetBy_18 : co_X8_isMetBy[18]? = some ((38, .invokestatic 31, 927, 41, 1, 0, 0, 0, []) : xm_I) := rfl
theorem r_X8_isMetBy_19 : co_X8_isMetBy[19]? = some ((41, .aload_n 0, 0, 0, 0, 0, 0, 0, []) : xm_I) := rfl
theorem r_X8_isMetBy_20 : co_X8_isMetBy[20]? = some ((42, .getfield 28, 193, 7, 2, 0, 0, 0, []) : xm_I) := rfl
theorem r_X8_isMetBy_21 : co_X8_isMetBy[21]? = some ((45, .if_icmp .ne 26, 0, 0, 33, 0, 0, 0, []) : xm_I) := rfl
theorem r_X8_isMetBy_22 : co_X8_isMetBy[22]? = some ((48, .aload_n 0, 0, 0, 0, 0, 0, 0, []) : xm_I) := rfl
theorem r_X8_isMetBy_23 : co_X8_isMetBy[23]? = some ((49, .getfield 34, 195, 7, 3, 0, 0, 0, []) : xm_I) := rfl
theorem r_X8_isMetBy_24 : co_X8_isMetBy[24]? = some ((52, .iconst 5, 0, 0, 0, 0, 5, 0, []) : xm_I) := rfl
theorem r_X8_isMetBy_25 : co_X8_isMetBy[25]? = some ((53, .if_icmp .eq 14, 0, 0, 31, 0, 0, 0, []) : xm_I) := rfl
theorem r_X8_isMetBy_26 : co_X8_isMetBy[26]? = some ((56, .iload_n 1, 0, 0, 0, 0, 0, 0, []) : xm_I) := rfl
theorem r_X8_isMetBy_27 : co_X8_isMetBy[27]? = some ((57, .invokestatic 37, 928, 40, 1, 0, 0, 0, []) : xm_I) := rfl
theorem r_X8_isMetBy_28 : co_X8_isMetBy[28]? = some ((60, .aload_n 0, 0, 0, 0, 0, 0, 0, []) : xm_I) := rfl
theorem r_X8_isMetBy_29 : co_X8_isMetBy[29]? = some ((61, .getfield 34, 195, 7, 3, 0, 0, 0, []) : xm_I) := rfl
theorem r_X8_isMetBy_30 : co_X8_isMetBy[30]? = some ((64, .if_icmp .ne 7, 0, 0, 33, 0, 0, 0, []) : xm_I) := rfl
theorem r_X8_isMetBy_31 : co_X8_isMetBy[31]? = some ((67, .iconst 1, 0, 0, 0, 0, 1, 0, []) : xm_I) := rfl
theorem r_X8_isMetBy_32 : co_X8_isMetBy[32]? = some ((68, .goto 4, 0, 0, 34, 0, 0, 0, []) : xm_I) := rfl
theorem r_X8_isMetBy_33 : co_X8_isMetBy[33]? = some ((71, .iconst 0, 0, 0, 0, 0, 0, 0, []) : xm_I) := rfl
theorem r_X8_isMetBy_34 : co_X8_isMetBy[34]? = some ((72, .ireturn, 0, 0, 0, 3, 0, 0, []) : xm_I) := rfl
theorem p_X8_isMetBy_0_0 {X : xm_X} {P : List xm_M} {d : Nat} {h : xm_H} {l0 : Nat} {l1 : Int32} {h0 : xm_H} {r0 : Int32} {h1 : xm_H} {r1 : Int32} {h2 : xm_H} {r2 : Int32} (q0 : xm_V X P d 38 [.int l1] h (some (.int r0)) h0) (q1 : X.1[l0]? = some (.inr 7)) (q2 : r0 = h0.1 l0 0) (q3 : xm_V X P d 39 [.int l1] h0 (some (.int r1)) h1) (q4 : r1 = h1.1 l0 1) (q5 : xm_V X P d 42 [.int l1] h1 (some (.int r2)) h2) (q6 : r2 = (0 : Int32)) (q7 : h2.1 l0 2 = (2 : Int32)) (q8 : h2.1 l0 3 = (5 : Int32)) : xm_E X P d co_X8_isMetBy 0 [some (.ref l0), some (.int l1)] [] h (some (.int (1 : Int32))) h2 := by
  refine xm_E_s r_X8_isMetBy_0 rfl rfl ?_
  refine xm_E_cs [.int l1] [] r_X8_isMetBy_1 rfl rfl rfl (Nat.le_of_ble_eq_true rfl) rfl q0 ?_
  refine xm_E_s r_X8_isMetBy_2 rfl rfl ?_
  refine xm_E_s r_X8_isMetBy_3 rfl (xm_T_gi rfl q1 rfl (Or.inl rfl)) ?_
  refine xm_E_s r_X8_isMetBy_4 rfl rfl ?_
  refine xm_E_t q2 ?_
  refine xm_E_s r_X8_isMetBy_5 rfl rfl ?_
  refine xm_E_cs [.int l1] [] r_X8_isMetBy_6 rfl rfl rfl (Nat.le_of_ble_eq_true rfl) rfl q3 ?_
  refine xm_E_s r_X8_isMetBy_7 rfl rfl ?_
  refine xm_E_s r_X8_isMetBy_8 rfl (xm_T_gi rfl q1 rfl (Or.inl rfl)) ?_
  refine xm_E_s r_X8_isMetBy_9 rfl rfl ?_
  refine xm_E_t q4 ?_
  refine xm_E_s r_X8_isMetBy_10 rfl rfl ?_
  refine xm_E_cs [.int l1] [] r_X8_isMetBy_11 rfl rfl rfl (Nat.le_of_ble_eq_true rfl) rfl q5 ?_
  refine xm_E_s r_X8_isMetBy_12 rfl rfl ?_
  refine xm_E_t q6 ?_
  refine xm_E_s r_X8_isMetBy_13 rfl rfl ?_
  refine xm_E_s r_X8_isMetBy_14 rfl (xm_T_gi rfl q1 rfl (Or.inl rfl)) ?_
  refine xm_E_s r_X8_isMetBy_15 rfl rfl ?_
  refine xm_E_s r_X8_isMetBy_16 rfl rfl ?_
  refine xm_E_t q7 ?_
  refine xm_E_s r_X8_isMetBy_22 rfl rfl ?_
  refine xm_E_s r_X8_isMetBy_23 rfl (xm_T_gi rfl q1 rfl (Or.inl rfl)) ?_
  refine xm_E_s r_X8_isMetBy_24 rfl rfl ?_
  refine xm_E_s r_X8_isMetBy_25 rfl rfl ?_
  refine xm_E_t q8 ?_
  refine xm_E_s r_X8_isMetBy_31 rfl rfl ?_
  refine xm_E_s r_X8_isMetBy_32 rfl rfl ?_
  exact xm_E_iret r_X8_isMetBy_34 rfl rfl
theorem p_X8_isMetBy_0_1 {X : xm_X} {P : List xm_M} {d : Nat} {h : xm_H} {l0 : Nat} {l1 : Int32} {h0 : xm_H} {r0 : Int32} {h1 : xm_H} {r1 : Int32} {h2 : xm_H} {r2 : Int32} {h3 : xm_H} {r3 : Int32} (q0 : xm_V X P d 38 [.int l1] h (some (.int r0)) h0) (q1 : X.1[l0]? = some (.inr 7)) (q2 : r0 = h0.1 l0 0) (q3 : xm_V X P d 39 [.int l1] h0 (some (.int r1)) h1) (q4 : r1 = h1.1 l0 1) (q5 : xm_V X P d 42 [.int l1] h1 (some (.int r2)) h2) (q6 : r2 = (0 : Int32)) (q7 : h2.1 l0 2 = (2 : Int32)) (q8 : ¬ (h2.1 l0 3 = (5 : Int32))) (q9 : xm_V X P d 40 [.int l1] h2 (some (.int r3)) h3) (q10 : r3 = h3.1 l0 3) : xm_E X P d co_X8_isMetBy 0 [some (.ref l0), some (.int l1)] [] h (some (.int (1 : Int32))) h3 := by
  refine xm_E_s r_X8_isMetBy_0 rfl rfl ?_
  refine xm_E_cs [.int l1] [] r_X8_isMetBy_1 rfl rfl rfl (Nat.le_of_ble_eq_true rfl) rfl q0 ?_
  refine xm_E_s r_X8_isMetBy_2 rfl rfl ?_
  refine xm_E_s r_X8_isMetBy_3 rfl (xm_T_gi rfl q1 rfl (Or.inl rfl)) ?_
  refine xm_E_s r_X8_isMetBy_4 rfl rfl ?_
  refine xm_E_t q2 ?_
  refine xm_E_s r_X8_isMetBy_5 rfl rfl ?_
  refine xm_E_cs [.int l1] [] r_X8_isMetBy_6 rfl rfl rfl (Nat.le_of_ble_eq_true rfl) rfl q3 ?_
  refine xm_E_s r_X8_isMetBy_7 rfl rfl ?_
  refine xm_E_s r_X8_isMetBy_8 rfl (xm_T_gi rfl q1 rfl (Or.inl rfl)) ?_
  refine xm_E_s r_X8_isMetBy_9 rfl rfl ?_
  refine xm_E_t q4 ?_
  refine xm_E_s r_X8_isMetBy_10 rfl rfl ?_
  refine xm_E_cs [.int l1] [] r_X8_isMetBy_11 rfl rfl rfl (Nat.le_of_ble_eq_true rfl) rfl q5 ?_
  refine xm_E_s r_X8_isMetBy_12 rfl rfl ?_
  refine xm_E_t q6 ?_
  refine xm_E_s r_X8_isMetBy_13 rfl rfl ?_
  refine xm_E_s r_X8_isMetBy_14 rfl (xm_T_gi rfl q1 rfl (Or.inl rfl)) ?_
  refine xm_E_s r_X8_isMetBy_15 rfl rfl ?_
  refine xm_E_s r_X8_isMetBy_16 rfl rfl ?_
  refine xm_E_t q7 ?_
  refine xm_E_s r_X8_isMetBy_22 rfl rfl ?_
  refine xm_E_s r_X8_isMetBy_23 rfl (xm_T_gi rfl q1 rfl (Or.inl rfl)) ?_
  refine xm_E_s r_X8_isMetBy_24 rfl rfl ?_
  refine xm_E_s r_X8_isMetBy_25 rfl rfl ?_
  refine xm_E_f q8 ?_
  refine xm_E_s r_X8_isMetBy_26 rfl rfl ?_
  refine xm_E_cs [.int l1] [] r_X8_isMetBy_27 rfl rfl rfl (Nat.le_of_ble_eq_true rfl) rfl q9 ?_
  refine xm_E_s r_X8_isMetBy_28 rfl rfl ?_
  refine xm_E_s r_X8_isMetBy_29 rfl (xm_T_gi rfl q1 rfl (Or.inl rfl)) ?_
  refine xm_E_s r_X8_isMetBy_30 rfl rfl ?_
  refine xm_E_t q10 ?_
  refine xm_E_s r_X8_isMetBy_31 rfl rfl ?_
  refine xm_E_s r_X8_isMetBy_32 rfl rfl ?_
  exact xm_E_iret r_X8_isMetBy_34 rfl rfl
theorem p_X8_isMetBy_0_2 {X : xm_X} {P : List xm_M} {d : Nat} {h : xm_H} {l0 : Nat} {l1 : Int32} {h0 : xm_H} {r0 : Int32} {h1 : xm_H} {r1 : Int32} {h2 : xm_H} {r2 : Int32} {h3 : xm_H} {r3 : Int32} (q0 : xm_V X P d 38 [.int l1] h (some (.int r0)) h0) (q1 : X.1[l0]? = some (.inr 7)) (q2 : r0 = h0.1 l0 0) (q3 : xm_V X P d 39 [.int l1] h0 (some (.int r1)) h1) (q4 : r1 = h1.1 l0 1) (q5 : xm_V X P d 42 [.int l1] h1 (some (.int r2)) h2) (q6 : r2 = (0 : Int32)) (q7 : h2.1 l0 2 = (2 : Int32)) (q8 : ¬ (h2.1 l0 3 = (5 : Int32))) (q9 : xm_V X P d 40 [.int l1] h2 (some (.int r3)) h3) (q10 : ¬ (r3 = h3.1 l0 3)) : xm_E X P d co_X8_isMetBy 0 [some (.ref l0), some (.int l1)] [] h (some (.int (0 : Int32))) h3 := by
  refine xm_E_s r_X8_isMetBy_0 rfl rfl ?_
  refine xm_E_cs [.int l1] [] r_X8_isMetBy_1 rfl rfl rfl (Nat.le_of_ble_eq_true rfl) rfl q0 ?_
  refine xm_E_s r_X8_isMetBy_2 rfl rfl ?_
  refine xm_E_s r_X8_isMetBy_3 rfl (xm_T_gi rfl q1 rfl (Or.inl rfl)) ?_
  refine xm_E_s r_X8_isMetBy_4 rfl rfl ?_
  refine xm_E_t q2 ?_
  refine xm_E_s r_X8_isMetBy_5 rfl rfl ?_
  refine xm_E_cs [.int l1] [] r_X8_isMetBy_6 rfl rfl rfl (Nat.le_of_ble_eq_true rfl) rfl q3 ?_
  refine xm_E_s r_X8_isMetBy_7 rfl rfl ?_
  refine xm_E_s r_X8_isMetBy_8 rfl (xm_T_gi rfl q1 rfl (Or.inl rfl)) ?_
  refine xm_E_s r_X8_isMetBy_9 rfl rfl ?_
  refine xm_E_t q4 ?_
  refine xm_E_s r_X8_isMetBy_10 rfl rfl ?_
  refine xm_E_cs [.int l1] [] r_X8_isMetBy_11 rfl rfl rfl (Nat.le_of_ble_eq_true rfl) rfl q5 ?_
  refine xm_E_s r_X8_isMetBy_12 rfl rfl ?_
  refine xm_E_t q6 ?_
  refine xm_E_s r_X8_isMetBy_13 rfl rfl ?_
  refine xm_E_s r_X8_isMetBy_14 rfl (xm_T_gi rfl q1 rfl (Or.inl rfl)) ?_
  refine xm_E_s r_X8_isMetBy_15 rfl rfl ?_
  refine xm_E_s r_X8_isMetBy_16 rfl rfl ?_
  refine xm_E_t q7 ?_
  refine xm_E_s r_X8_isMetBy_22 rfl rfl ?_
  refine xm_E_s r_X8_isMetBy_23 rfl (xm_T_gi rfl q1 rfl (Or.inl rfl)) ?_
  refine xm_E_s r_X8_isMetBy_24 rfl rfl ?_
  refine xm_E_s r_X8_isMetBy_25 rfl rfl ?_
  refine xm_E_f q8 ?_
  refine xm_E_s r_X8_isMetBy_26 rfl rfl ?_
  refine xm_E_cs [.int l1] [] r_X8_isMetBy_27 rfl rfl rfl (Nat.le_of_ble_eq_true rfl) rfl q9 ?_
  refine xm_E_s r_X8_isMetBy_28 rfl rfl ?_
  refine xm_E_s r_X8_isMetBy_29 rfl (xm_T_gi rfl q1 rfl (Or.inl rfl)) ?_
  refine xm_E_s r_X8_isMetBy_30 rfl rfl ?_
  refine xm_E_f q10 ?_
  refine xm_E_s r_X8_isMetBy_33 rfl rfl ?_
  exact xm_E_iret r_X8_isMetBy_34 rfl rfl
theorem p_X8_isMetBy_0_3 {X : xm_X} {P : List xm_M} {d : Nat} {h : xm_H} {l0 : Nat} {l1 : Int32} {h0 : xm_H} {r0 : Int32} {h1 : xm_H} {r1 : Int32} {h2 : xm_H} {r2 : Int32} {h3 : xm_H} {r3 : Int32} (q0 : xm_V X P d 38 [.int l1] h (some (.int r0)) h0) (q1 : X.1[l0]? = some (.inr 7)) (q2 : r0 = h0.1 l0 0) (q3 : xm_V X P d 39 [.int l1] h0 (some (.int r1)) h1) (q4 : r1 = h1.1 l0 1) (q5 : xm_V X P d 42 [.int l1] h1 (some (.int r2)) h2) (q6 : r2 = (0 : Int32)) (q7 : ¬ (h2.1 l0 2 = (2 : Int32))) (q8 : xm_V X P d 41 [.int l1] h2 (some (.int r3)) h3) (q9 : r3 = h3.1 l0 2) (q10 : h3.1 l0 3 = (5 : Int32)) : xm_E X P d co_X8_isMetBy 0 [some (.ref l0), some (.int l1)] [] h (some (.int (1 : Int32))) h3 := by
  refine xm_E_s r_X8_isMetBy_0 rfl rfl ?_
  refine xm_E_cs [.int l1] [] r_X8_isMetBy_1 rfl rfl rfl (Nat.le_of_ble_eq_true rfl) rfl q0 ?_
  refine xm_E_s r_X8_isMetBy_2 rfl rfl ?_
  refine xm_E_s r_X8_isMetBy_3 rfl (xm_T_gi rfl q1 rfl (Or.inl rfl)) ?_
  refine xm_E_s r_X8_isMetBy_4 rfl rfl ?_
  refine xm_E_t q2 ?_
  refine xm_E_s r_X8_isMetBy_5 rfl rfl ?_
  refine xm_E_cs [.int l1] [] r_X8_isMetBy_6 rfl rfl rfl (Nat.le_of_ble_eq_true rfl) rfl q3 ?_
  refine xm_E_s r_X8_isMetBy_7 rfl rfl ?_
  refine xm_E_s r_X8_isMetBy_8 rfl (xm_T_gi rfl q1 rfl (Or.inl rfl)) ?_
  refine xm_E_s r_X8_isMetBy_9 rfl rfl ?_
  refine xm_E_t q4 ?_
  refine xm_E_s r_X8_isMetBy_10 rfl rfl ?_
  refine xm_E_cs [.int l1] [] r_X8_isMetBy_11 rfl rfl rfl (Nat.le_of_ble_eq_true rfl) rfl q5 ?_
  refine xm_E_s r_X8_isMetBy_12 rfl rfl ?_
  refine xm_E_t q6 ?_
  refine xm_E_s r_X8_isMetBy_13 rfl rfl ?_
  refine xm_E_s r_X8_isMetBy_14 rfl (xm_T_gi rfl q1 rfl (Or.inl rfl)) ?_
  refine xm_E_s r_X8_isMetBy_15 rfl rfl ?_
  refine xm_E_s r_X8_isMetBy_16 rfl rfl ?_
  refine xm_E_f q7 ?_
  refine xm_E_s r_X8_isMetBy_17 rfl rfl ?_
  refine xm_E_cs [.int l1] [] r_X8_isMetBy_18 rfl rfl rfl (Nat.le_of_ble_eq_true rfl) rfl q8 ?_
  refine xm_E_s r_X8_isMetBy_19 rfl rfl ?_
  refine xm_E_s r_X8_isMetBy_20 rfl (xm_T_gi rfl q1 rfl (Or.inl rfl)) ?_
  refine xm_E_s r_X8_isMetBy_21 rfl rfl ?_
  refine xm_E_t q9 ?_
  refine xm_E_s r_X8_isMetBy_22 rfl rfl ?_
  refine xm_E_s r_X8_isMetBy_23 rfl (xm_T_gi rfl q1 rfl (Or.inl rfl)) ?_
  refine xm_E_s r_X8_isMetBy_24 rfl rfl ?_
  refine xm_E_s r_X8_isMetBy_25 rfl rfl ?_
  refine xm_E_t q10 ?_
  refine xm_E_s r_X8_isMetBy_31 rfl rfl ?_
  refine xm_E_s r_X8_isMetBy_32 rfl rfl ?_
  exact xm_E_iret r_X8_isMetBy_34 rfl rfl
theorem p_X8_isMetBy_0_4 {X : xm_X} {P : List xm_M} {d : Nat} {h : xm_H} {l0 : Nat} {l1 : Int32} {h0 : xm_H} {r0 : Int32} {h1 : xm_H} {r1 : Int32} {h2 : xm_H} {r2 : Int32} {h3 : xm_H} {r3 : Int32} {h4 : xm_H} {r4 : Int32} (q0 : xm_V X P d 38 [.int l1] h (some (.int r0)) h0) (q1 : X.1[l0]? = some (.inr 7)) (q2 : r0 = h0.1 l0 0) (q3 : xm_V X P d 39 [.int l1] h0 (some (.int r1)) h1) (q4 : r1 = h1.1 l0 1) (q5 : xm_V X P d 42 [.int l1] h1 (some (.int r2)) h2) (q6 : r2 = (0 : Int32)) (q7 : ¬ (h2.1 l0 2 = (2 : Int32))) (q8 : xm_V X P d 41 [.int l1] h2 (some (.int r3)) h3) (q9 : r3 = h3.1 l0 2) (q10 : ¬ (h3.1 l0 3 = (5 : Int32))) (q11 : xm_V X P d 40 [.int l1] h3 (some (.int r4)) h4) (q12 : r4 = h4.1 l0 3) : xm_E X P d co_X8_isMetBy 0 [some (.ref l0), some (.int l1)] [] h (some (.int (1 : Int32))) h4 := by
  refine xm_E_s r_X8_isMetBy_0 rfl rfl ?_
  refine xm_E_cs [.int l1] [] r_X8_isMetBy_1 rfl rfl rfl (Nat.le_of_ble_eq_true rfl) rfl q0 ?_
  refine xm_E_s r_X8_isMetBy_2 rfl rfl ?_
  refine xm_E_s r_X8_isMetBy_3 rfl (xm_T_gi rfl q1 rfl (Or.inl rfl)) ?_
  refine xm_E_s r_X8_isMetBy_4 rfl rfl ?_
  refine xm_E_t q2 ?_
  refine xm_E_s r_X8_isMetBy_5 rfl rfl ?_
  refine xm_E_cs [.int l1] [] r_X8_isMetBy_6 rfl rfl rfl (Nat.le_of_ble_eq_true rfl) rfl q3 ?_
  refine xm_E_s r_X8_isMetBy_7 rfl rfl ?_
  refine xm_E_s r_X8_isMetBy_8 rfl (xm_T_gi rfl q1 rfl (Or.inl rfl)) ?_
  refine xm_E_s r_X8_isMetBy_9 rfl rfl ?_
  refine xm_E_t q4 ?_
  refine xm_E_s r_X8_isMetBy_10 rfl rfl ?_
  refine xm_E_cs [.int l1] [] r_X8_isMetBy_11 rfl rfl rfl (Nat.le_of_ble_eq_true rfl) rfl q5 ?_
  refine xm_E_s r_X8_isMetBy_12 rfl rfl ?_
  refine xm_E_t q6 ?_
  refine xm_E_s r_X8_isMetBy_13 rfl rfl ?_
  refine xm_E_s r_X8_isMetBy_14 rfl (xm_T_gi rfl q1 rfl (Or.inl rfl)) ?_
  refine xm_E_s r_X8_isMetBy_15 rfl rfl ?_
  refine xm_E_s r_X8_isMetBy_16 rfl rfl ?_
  refine xm_E_f q7 ?_
  refine xm_E_s r_X8_isMetBy_17 rfl rfl ?_
  refine xm_E_cs [.int l1] [] r_X8_isMetBy_18 rfl rfl rfl (Nat.le_of_ble_eq_true rfl) rfl q8 ?_
  refine xm_E_s r_X8_isMetBy_19 rfl rfl ?_
  refine xm_E_s r_X8_isMetBy_20 rfl (xm_T_gi rfl q1 rfl (Or.inl rfl)) ?_
  refine xm_E_s r_X8_isMetBy_21 rfl rfl ?_
  refine xm_E_t q9 ?_
  refine xm_E_s r_X8_isMetBy_22 rfl rfl ?_
  refine xm_E_s r_X8_isMetBy_23 rfl (xm_T_gi rfl q1 rfl (Or.inl rfl)) ?_
  refine xm_E_s r_X8_isMetBy_24 rfl rfl ?_
  refine xm_E_s r_X8_isMetBy_25 rfl rfl ?_
  refine xm_E_f q10 ?_
  refine xm_E_s r_X8_isMetBy_26 rfl rfl ?_
  refine xm_E_cs [.int l1] [] r_X8_isMetBy_27 rfl rfl rfl (Nat.le_of_ble_eq_true rfl) rfl q11 ?_
  refine xm_E_s r_X8_isMetBy_28 rfl rfl ?_
  refine xm_E_s r_X8_isMetBy_29 rfl (xm_T_gi rfl q1 rfl (Or.inl rfl)) ?_
  refine xm_E_s r_X8_isMetBy_30 rfl rfl ?_
  refine xm_E_t q12 ?_
  refine xm_E_s r_X8_isMetBy_31 rfl rfl ?_
  refine xm_E_s r_X8_isMetBy_32 rfl rfl ?_
  exact xm_E_iret r_X8_isMetBy_34 rfl rfl
theorem p_X8_isMetBy_0_5 {X : xm_X} {P : List xm_M} {d : Nat} {h : xm_H} {l0 : Nat} {l1 : Int32} {h0 : xm_H} {r0 : Int32} {h1 : xm_H} {r1 : Int32} {h2 : xm_H} {r2 : Int32} {h3 : xm_H} {r3 : Int32} {h4 : xm_H} {r4 : Int32} (q0 : xm_V X P d 38 [.int l1] h (some (.int r0)) h0) (q1 : X.1[l0]? = some (.inr 7)) (q2 : r0 = h0.1 l0 0) (q3 : xm_V X P d 39 [.int l1] h0 (some (.int r1)) h1) (q4 : r1 = h1.1 l0 1) (q5 : xm_V X P d 42 [.int l1] h1 (some (.int r2)) h2) (q6 : r2 = (0 : Int32)) (q7 : ¬ (h2.1 l0 2 = (2 : Int32))) (q8 : xm_V X P d 41 [.int l1] h2 (some (.int r3)) h3) (q9 : r3 = h3.1 l0 2) (q10 : ¬ (h3.1 l0 3 = (5 : Int32))) (q11 : xm_V X P d 40 [.int l1] h3 (some (.int r4)) h4) (q12 : ¬ (r4 = h4.1 l0 3)) : xm_E X P d co_X8_isMetBy 0 [some (.ref l0), some (.int l1)] [] h (some (.int (0 : Int32))) h4 := by
  refine xm_E_s r_X8_isMetBy_0 rfl rfl ?_
  refine xm_E_cs [.int l1] [] r_X8_isMetBy_1 rfl rfl rfl (Nat.le_of_ble_eq_true rfl) rfl q0 ?_
  refine xm_E_s r_X8_isMetBy_2 rfl rfl ?_
  refine xm_E_s r_X8_isMetBy_3 rfl (xm_T_gi rfl q1 rfl (Or.inl rfl)) ?_
  refine xm_E_s r_X8_isMetBy_4 rfl rfl ?_
  refine xm_E_t q2 ?_
  refine xm_E_s r_X8_isMetBy_5 rfl rfl ?_
  refine xm_E_cs [.int l1] [] r_X8_isMetBy_6 rfl rfl rfl (Nat.le_of_ble_eq_true rfl) rfl q3 ?_
  refine xm_E_s r_X8_isMetBy_7 rfl rfl ?_
  refine xm_E_s r_X8_isMetBy_8 rfl (xm_T_gi rfl q1 rfl (Or.inl rfl)) ?_
  refine xm_E_s r_X8_isMetBy_9 rfl rfl ?_
  refine xm_E_t q4 ?_
  refine xm_E_s r_X8_isMetBy_10 rfl rfl ?_
  refine xm_E_cs [.int l1] [] r_X8_isMetBy_11 rfl rfl rfl (Nat.le_of_ble_eq_true rfl) rfl q5 ?_
  refine xm_E_s r_X8_isMetBy_12 rfl rfl ?_
  refine xm_E_t q6 ?_
  refine xm_E_s r_X8_isMetBy_13 rfl rfl ?_
  refine xm_E_s r_X8_isMetBy_14 rfl (xm_T_gi rfl q1 rfl (Or.inl rfl)) ?_
  refine xm_E_s r_X8_isMetBy_15 rfl rfl ?_
  refine xm_E_s r_X8_isMetBy_16 rfl rfl ?_
  refine xm_E_f q7 ?_
  refine xm_E_s r_X8_isMetBy_17 rfl rfl ?_
  refine xm_E_cs [.int l1] [] r_X8_isMetBy_18 rfl rfl rfl (Nat.le_of_ble_eq_true rfl) rfl q8 ?_
  refine xm_E_s r_X8_isMetBy_19 rfl rfl ?_
  refine xm_E_s r_X8_isMetBy_20 rfl (xm_T_gi rfl q1 rfl (Or.inl rfl)) ?_
  refine xm_E_s r_X8_isMetBy_21 rfl rfl ?_
  refine xm_E_t q9 ?_
  refine xm_E_s r_X8_isMetBy_22 rfl rfl ?_
  refine xm_E_s r_X8_isMetBy_23 rfl (xm_T_gi rfl q1 rfl (Or.inl rfl)) ?_
  refine xm_E_s r_X8_isMetBy_24 rfl rfl ?_
  refine xm_E_s r_X8_isMetBy_25 rfl rfl ?_
  refine xm_E_f q10 ?_
  refine xm_E_s r_X8_isMetBy_26 rfl rfl ?_
  refine xm_E_cs [.int l1] [] r_X8_isMetBy_27 rfl rfl rfl (Nat.le_of_ble_eq_true rfl) rfl q11 ?_
  refine xm_E_s r_X8_isMetBy_28 rfl rfl ?_
  refine xm_E_s r_X8_isMetBy_29 rfl (xm_T_gi rfl q1 rfl (Or.inl rfl)) ?_
  refine xm_E_s r_X8_isMetBy_30 rfl rfl ?_
  refine xm_E_f q12 ?_
  refine xm_E_s r_X8_isMetBy_33 rfl rfl ?_
  exact xm_E_iret r_X8_isMetBy_34 rfl rfl
theorem p_X8_isMetBy_0_6 {X : xm_X} {P : List xm_M} {d : Nat} {h : xm_H} {l0 : Nat} {l1 : Int32} {h0 : xm_H} {r0 : Int32} {h1 : xm_H} {r1 : Int32} {h2 : xm_H} {r2 : Int32} {h3 : xm_H} {r3 : Int32} (q0 : xm_V X P d 38 [.int l1] h (some (.int r0)) h0) (q1 : X.1[l0]? = some (.inr 7)) (q2 : r0 = h0.1 l0 0) (q3 : xm_V X P d 39 [.int l1] h0 (some (.int r1)) h1) (q4 : r1 = h1.1 l0 1) (q5 : xm_V X P d 42 [.int l1] h1 (some (.int r2)) h2) (q6 : r2 = (0 : Int32)) (q7 : ¬ (h2.1 l0 2 = (2 : Int32))) (q8 : xm_V X P d 41 [.int l1] h2 (some (.int r3)) h3) (q9 : ¬ (r3 = h3.1 l0 2)) : xm_E X P d co_X8_isMetBy 0 [some (.ref l0), some (.int l1)] [] h (some (.int (0 : Int32))) h3 := by
  refine xm_E_s r_X8_isMetBy_0 rfl rfl ?_
  refine xm_E_cs [.int l1] [] r_X8_isMetBy_1 rfl rfl rfl (Nat.le_of_ble_eq_true rfl) rfl q0 ?_
  refine xm_E_s r_X8_isMetBy_2 rfl rfl ?_
  refine xm_E_s r_X8_isMetBy_3 rfl (xm_T_gi rfl q1 rfl (Or.inl rfl)) ?_
  refine xm_E_s r_X8_isMetBy_4 rfl rfl ?_
  refine xm_E_t q2 ?_
  refine xm_E_s r_X8_isMetBy_5 rfl rfl ?_
  refine xm_E_cs [.int l1] [] r_X8_isMetBy_6 rfl rfl rfl (Nat.le_of_ble_eq_true rfl) rfl q3 ?_
  refine xm_E_s r_X8_isMetBy_7 rfl rfl ?_
  refine xm_E_s r_X8_isMetBy_8 rfl (xm_T_gi rfl q1 rfl (Or.inl rfl)) ?_
  refine xm_E_s r_X8_isMetBy_9 rfl rfl ?_
  refine xm_E_t q4 ?_
  refine xm_E_s r_X8_isMetBy_10 rfl rfl ?_
  refine xm_E_cs [.int l1] [] r_X8_isMetBy_11 rfl rfl rfl (Nat.le_of_ble_eq_true rfl) rfl q5 ?_
  refine xm_E_s r_X8_isMetBy_12 rfl rfl ?_
  refine xm_E_t q6 ?_
  refine xm_E_s r_X8_isMetBy_13 rfl rfl ?_
  refine xm_E_s r_X8_isMetBy_14 rfl (xm_T_gi rfl q1 rfl (Or.inl rfl)) ?_
  refine xm_E_s r_X8_isMetBy_15 rfl rfl ?_
  refine xm_E_s r_X8_isMetBy_16 rfl rfl ?_
  refine xm_E_f q7 ?_
  refine xm_E_s r_X8_isMetBy_17 rfl rfl ?_
  refine xm_E_cs [.int l1] [] r_X8_isMetBy_18 rfl rfl rfl (Nat.le_of_ble_eq_true rfl) rfl q8 ?_
  refine xm_E_s r_X8_isMetBy_19 rfl rfl ?_
  refine xm_E_s r_X8_isMetBy_20 rfl (xm_T_gi rfl q1 rfl (Or.inl rfl)) ?_
  refine xm_E_s r_X8_isMetBy_21 rfl rfl ?_
  refine xm_E_f q9 ?_
  refine xm_E_s r_X8_isMetBy_33 rfl rfl ?_
  exact xm_E_iret r_X8_isMetBy_34 rfl rfl
theorem p_X8_isMetBy_0_7 {X : xm_X} {P : List xm_M} {d : Nat} {h : xm_H} {l0 : Nat} {l1 : Int32} {h0 : xm_H} {r0 : Int32} {h1 : xm_H} {r1 : Int32} {h2 : xm_H} {r2 : Int32} (q0 : xm_V X P d 38 [.int l1] h (some (.int r0)) h0) (q1 : X.1[l0]? = some (.inr 7)) (q2 : r0 = h0.1 l0 0) (q3 : xm_V X P d 39 [.int l1] h0 (some (.int r1)) h1) (q4 : r1 = h1.1 l0 1) (q5 : xm_V X P d 42 [.int l1] h1 (some (.int r2)) h2) (q6 : ¬ (r2 = (0 : Int32))) : xm_E X P d co_X8_isMetBy 0 [some (.ref l0), some (.int l1)] [] h (some (.int (0 : Int32))) h2 := by
  refine xm_E_s r_X8_isMetBy_0 rfl rfl ?_
  refine xm_E_cs [.int l1] [] r_X8_isMetBy_1 rfl rfl rfl (Nat.le_of_ble_eq_true rfl) rfl q0 ?_
  refine xm_E_s r_X8_isMetBy_2 rfl rfl ?_
  refine xm_E_s r_X8_isMetBy_3 rfl (xm_T_gi rfl q1 rfl (Or.inl rfl)) ?_
  refine xm_E_s r_X8_isMetBy_4 rfl rfl ?_
  refine xm_E_t q2 ?_
  refine xm_E_s r_X8_isMetBy_5 rfl rfl ?_
  refine xm_E_cs [.int l1] [] r_X8_isMetBy_6 rfl rfl rfl (Nat.le_of_ble_eq_true rfl) rfl q3 ?_
  refine xm_E_s r_X8_isMetBy_7 rfl rfl ?_
  refine xm_E_s r_X8_isMetBy_8 rfl (xm_T_gi rfl q1 rfl (Or.inl rfl)) ?_
  refine xm_E_s r_X8_isMetBy_9 rfl rfl ?_
  refine xm_E_t q4 ?_
  refine xm_E_s r_X8_isMetBy_10 rfl rfl ?_
  refine xm_E_cs [.int l1] [] r_X8_isMetBy_11 rfl rfl rfl (Nat.le_of_ble_eq_true rfl) rfl q5 ?_
  refine xm_E_s r_X8_isMetBy_12 rfl rfl ?_
  refine xm_E_f q6 ?_
  refine xm_E_s r_X8_isMetBy_33 rfl rfl ?_
  exact xm_E_iret r_X8_isMetBy_34 rfl rfl
theorem p_X8_isMetBy_0_8 {X : xm_X} {P : List xm_M} {d : Nat} {h : xm_H} {l0 : Nat} {l1 : Int32} {h0 : xm_H} {r0 : Int32} {h1 : xm_H} {r1 : Int32} (q0 : xm_V X P d 38 [.int l1] h (some (.int r0)) h0) (q1 : X.1[l0]? = some (.inr 7)) (q2 : r0 = h0.1 l0 0) (q3 : xm_V X P d 39 [.int l1] h0 (some (.int r1)) h1) (q4 : ¬ (r1 = h1.1 l0 1)) : xm_E X P d co_X8_isMetBy 0 [some (.ref l0), some (.int l1)] [] h (some (.int (0 : Int32))) h1 := by
  refine xm_E_s r_X8_isMetBy_0 rfl rfl ?_
  refine xm_E_cs [.int l1] [] r_X8_isMetBy_1 rfl rfl rfl (Nat.le_of_ble_eq_true rfl) rfl q0 ?_
  refine xm_E_s r_X8_isMetBy_2 rfl rfl ?_
  refine xm_E_s r_X8_isMetBy_3 rfl (xm_T_gi rfl q1 rfl (Or.inl rfl)) ?_
  refine xm_E_s r_X8_isMetBy_4 rfl rfl ?_
  refine xm_E_t q2 ?_
  refine xm_E_s r_X8_isMetBy_5 rfl rfl ?_
  refine xm_E_cs [.int l1] [] r_X8_isMetBy_6 rfl rfl rfl (Nat.le_of_ble_eq_true rfl) rfl q3 ?_
  refine xm_E_s r_X8_isMetBy_7 rfl rfl ?_
  refine xm_E_s r_X8_isMetBy_8 rfl (xm_T_gi rfl q1 rfl (Or.inl rfl)) ?_
  refine xm_E_s r_X8_isMetBy_9 rfl rfl ?_
  refine xm_E_f q4 ?_
  refine xm_E_s r_X8_isMetBy_33 rfl rfl ?_
  exact xm_E_iret r_X8_isMetBy_34 rfl rfl
theorem p_X8_isMetBy_0_9 {X : xm_X} {P : List xm_M} {d : Nat} {h : xm_H} {l0 : Nat} {l1 : Int32} {h0 : xm_H} {r0 : Int32} (q0 : xm_V X P d 38 [.int l1] h (some (.int r0)) h0) (q1 : X.1[l0]? = some (.inr 7)) (q2 : ¬ (r0 = h0.1 l0 0)) : xm_E X P d co_X8_isMetBy 0 [some (.ref l0), some (.int l1)] [] h (some (.int (0 : Int32))) h0 := by
  refine xm_E_s r_X8_isMetBy_0 rfl rfl ?_
  refine xm_E_cs [.int l1] [] r_X8_isMetBy_1 rfl rfl rfl (Nat.le_of_ble_eq_true rfl) rfl q0 ?_
  refine xm_E_s r_X8_isMetBy_2 rfl rfl ?_
  refine xm_E_s r_X8_isMetBy_3 rfl (xm_T_gi rfl q1 rfl (Or.inl rfl)) ?_
  refine xm_E_s r_X8_isMetBy_4 rfl rfl ?_
  refine xm_E_f q2 ?_
  refine xm_E_s r_X8_isMetBy_33 rfl rfl ?_
  exact xm_E_iret r_X8_isMetBy_34 rfl rfl
theorem r_X0_isToldBefore_0 : co_X0_isToldBefore[0]? = some ((0, .iconst 0, 0, 0, 0, 0, 0, 0, []) : xm_I) := rfl
theorem r_X0_isToldBefore_1 : co_X0_isToldBefore[1]? = some ((1, .istore_n 2, 0, 0, 0, 0, 0, 0, []) : xm_I) := rfl
theorem r_X0_isToldBefore_2 : co_X0_isToldBefore[2]? = some ((2, .iload_n 2, 0, 0, 0, 0, 0, 0, []) : xm_I) := rfl
theorem r_X0_isToldBefore_3 : co_X0_isToldBefore[3]? = some ((3, .iload_n 1, 0, 0, 0, 0, 0, 0, []) : xm_I) := rfl
theorem r_X0_isToldBefore_4 : co_X0_isToldBefore[4]? = some ((4, .if_icmp .ge 37, 0, 0, 23, 0, 0, 0, []) : xm_I) := rfl
theorem r_X0_isToldBefore_5 : co_X0_isToldBefore[5]? = some ((7, .aload_n 0, 0, 0, 0, 0, 0, 0, []) : xm_I) := rfl
theorem r_X0_isToldBefore_6 : co_X0_isToldBefore[6]? = some ((8, .iload_n 2, 0, 0, 0, 0, 0, 0, []) : xm_I) := rfl
theorem r_X0_isToldBefore_7 : co_X0_isToldBefore[7]? = some ((9, .invokevirtual 122, 789, 58, 2, 0, 0, 0, []) : xm_I) := rfl
theorem r_X0_isToldBefore_8 : co_X0_isToldBefore[8]? = some ((12, .aload_n 0, 0, 0, 0, 0, 0, 0, []) : xm_I) := rfl
theorem r_X0_isToldBefore_9 : co_X0_isToldBefore[9]? = some ((13, .iload_n 1, 0, 0, 0, 0, 0, 0, []) : xm_I) := rfl
theorem r_X0_isToldBefore_10 : co_X0_isToldBefore[10]? = some ((14, .invokevirtual 122, 789, 58, 2, 0, 0, 0, []) : xm_I) := rfl
theorem r_X0_isToldBefore_11 : co_X0_isToldBefore[11]? = some ((17, .if_icmp .ne 18, 0, 0, 21, 0, 0, 0, []) : xm_I) := rfl
theorem r_X0_isToldBefore_12 : co_X0_isToldBefore[12]? = some ((20, .aload_n 0, 0, 0, 0, 0, 0, 0, []) : xm_I) := rfl
theorem r_X0_isToldBefore_13 : co_X0_isToldBefore[13]? = some ((21, .iload_n 2, 0, 0, 0, 0, 0, 0, []) : xm_I) := rfl
theorem r_X0_isToldBefore_14 : co_X0_isToldBefore[14]? = some ((22, .invokevirtual 125, 793, 59, 2, 0, 0, 0, []) : xm_I) := rfl
theorem r_X0_isToldBefore_15 : co_X0_isToldBefore[15]? = some ((25, .aload_n 0, 0, 0, 0, 0, 0, 0, []) : xm_I) := rfl
theorem r_X0_isToldBefore_16 : co_X0_isToldBefore[16]? = some ((26, .iload_n 1, 0, 0, 0, 0, 0, 0, []) : xm_I) := rfl
theorem r_X0_isToldBefore_17 : co_X0_isToldBefore[17]? = some ((27, .invokevirtual 125, 793, 59, 2, 0, 0, 0, []) : xm_I) := rfl
theorem r_X0_isToldBefore_18 : co_X0_isToldBefore[18]? = some ((30, .if_icmp .ne 5, 0, 0, 21, 0, 0, 0, []) : xm_I) := rfl
theorem r_X0_isToldBefore_19 : co_X0_isToldBefore[19]? = some ((33, .iconst 1, 0, 0, 0, 0, 1, 0, []) : xm_I) := rfl
theorem r_X0_isToldBefore_20 : co_X0_isToldBefore[20]? = some ((34, .ireturn, 0, 0, 0, 3, 0, 0, []) : xm_I) := rfl
theorem r_X0_isToldBefore_21 : co_X0_isToldBefore[21]? = some ((35, .iinc 2 1, 0, 0, 0, 0, 1, 0, []) : xm_I) := rfl
theorem r_X0_isToldBefore_22 : co_X0_isToldBefore[22]? = some ((38, .goto (-36), 0, 0, 2, 0, 0, 0, []) : xm_I) := rfl
theorem r_X0_isToldBefore_23 : co_X0_isToldBefore[23]? = some ((41, .iconst 0, 0, 0, 0, 0, 0, 0, []) : xm_I) := rfl
theorem r_X0_isToldBefore_24 : co_X0_isToldBefore[24]? = some ((42, .ireturn, 0, 0, 0, 3, 0, 0, []) : xm_I) := rfl
theorem p_X0_isToldBefore_0_0 {X : xm_X} {P : List xm_M} {d : Nat} {h : xm_H} {l0 : Nat} {l1 : Int32} {ro : Option Value} {ho : xm_H}  (K : xm_E X P d co_X0_isToldBefore 2 [some (.ref l0), some (.int l1), some (.int (0 : Int32))] [] h ro ho) : xm_E X P d co_X0_isToldBefore 0 [some (.ref l0), some (.int l1), none] [] h ro ho := by
  refine xm_E_s r_X0_isToldBefore_0 rfl rfl ?_
  refine xm_E_s (ls1 := [some (.ref l0), some (.int l1), some (.int (0 : Int32))]) r_X0_isToldBefore_1 rfl rfl ?_
  exact K
theorem p_X0_isToldBefore_2_0 {X : xm_X} {P : List xm_M} {d : Nat} {h : xm_H} {l0 : Nat} {l1 : Int32} {l2 : Int32} (q0 : l1 ≤ l2) : xm_E X P d co_X0_isToldBefore 2 [some (.ref l0), some (.int l1), some (.int l2)] [] h (some (.int (0 : Int32))) h := by
  refine xm_E_s r_X0_isToldBefore_2 rfl rfl ?_
  refine xm_E_s r_X0_isToldBefore_3 rfl rfl ?_
  refine xm_E_s r_X0_isToldBefore_4 rfl rfl ?_
  refine xm_E_t q0 ?_
  refine xm_E_s r_X0_isToldBefore_23 rfl rfl ?_
  exact xm_E_iret r_X0_isToldBefore_24 rfl rfl
theorem p_X0_isToldBefore_2_1 {X : xm_X} {P : List xm_M} {d : Nat} {h : xm_H} {l0 : Nat} {l1 : Int32} {l2 : Int32} {h0 : xm_H} {r0 : Int32} {h1 : xm_H} {r1 : Int32} {h2 : xm_H} {r2 : Int32} {h3 : xm_H} {r3 : Int32} (q0 : ¬ (l1 ≤ l2)) (q1 : xm_V X P d 58 [.ref l0, .int l2] h (some (.int r0)) h0) (q2 : X.1[l0]? = some (.inr 0)) (q3 : xm_V X P d 58 [.ref l0, .int l1] h0 (some (.int r1)) h1) (q4 : r0 = r1) (q5 : xm_V X P d 59 [.ref l0, .int l2] h1 (some (.int r2)) h2) (q6 : xm_V X P d 59 [.ref l0, .int l1] h2 (some (.int r3)) h3) (q7 : r2 = r3) : xm_E X P d co_X0_isToldBefore 2 [some (.ref l0), some (.int l1), some (.int l2)] [] h (some (.int (1 : Int32))) h3 := by
  refine xm_E_s r_X0_isToldBefore_2 rfl rfl ?_
  refine xm_E_s r_X0_isToldBefore_3 rfl rfl ?_
  refine xm_E_s r_X0_isToldBefore_4 rfl rfl ?_
  refine xm_E_f q0 ?_
  refine xm_E_s r_X0_isToldBefore_5 rfl rfl ?_
  refine xm_E_s r_X0_isToldBefore_6 rfl rfl ?_
  refine xm_E_cv [.ref l0, .int l2] [] r_X0_isToldBefore_7 rfl rfl (Nat.le_of_ble_eq_true rfl) (xm_rc q2 (by decide)) rfl q1 ?_
  refine xm_E_s r_X0_isToldBefore_8 rfl rfl ?_
  refine xm_E_s r_X0_isToldBefore_9 rfl rfl ?_
  refine xm_E_cv [.ref l0, .int l1] [.int r0] r_X0_isToldBefore_10 rfl rfl (Nat.le_of_ble_eq_true rfl) (xm_rc q2 (by decide)) rfl q3 ?_
  refine xm_E_s r_X0_isToldBefore_11 rfl rfl ?_
  refine xm_E_t q4 ?_
  refine xm_E_s r_X0_isToldBefore_12 rfl rfl ?_
  refine xm_E_s r_X0_isToldBefore_13 rfl rfl ?_
  refine xm_E_cv [.ref l0, .int l2] [] r_X0_isToldBefore_14 rfl rfl (Nat.le_of_ble_eq_true rfl) (xm_rc q2 (by decide)) rfl q5 ?_
  refine xm_E_s r_X0_isToldBefore_15 rfl rfl ?_
  refine xm_E_s r_X0_isToldBefore_16 rfl rfl ?_
  refine xm_E_cv [.ref l0, .int l1] [.int r2] r_X0_isToldBefore_17 rfl rfl (Nat.le_of_ble_eq_true rfl) (xm_rc q2 (by decide)) rfl q6 ?_
  refine xm_E_s r_X0_isToldBefore_18 rfl rfl ?_
  refine xm_E_t q7 ?_
  refine xm_E_s r_X0_isToldBefore_19 rfl rfl ?_
  exact xm_E_iret r_X0_isToldBefore_20 rfl rfl
theorem p_X0_isToldBefore_2_2 {X : xm_X} {P : List xm_M} {d : Nat} {h : xm_H} {l0 : Nat} {l1 : Int32} {l2 : Int32} {h0 : xm_H} {r0 : Int32} {h1 : xm_H} {r1 : Int32} {h2 : xm_H} {r2 : Int32} {h3 : xm_H} {r3 : Int32} {ro : Option Value} {ho : xm_H} (q0 : ¬ (l1 ≤ l2)) (q1 : xm_V X P d 58 [.ref l0, .int l2] h (some (.int r0)) h0) (q2 : X.1[l0]? = some (.inr 0)) (q3 : xm_V X P d 58 [.ref l0, .int l1] h0 (some (.int r1)) h1) (q4 : r0 = r1) (q5 : xm_V X P d 59 [.ref l0, .int l2] h1 (some (.int r2)) h2) (q6 : xm_V X P d 59 [.ref l0, .int l1] h2 (some (.int r3)) h3) (q7 : ¬ (r2 = r3)) (K : xm_E X P d co_X0_isToldBefore 2 [some (.ref l0), some (.int l1), some (.int (l2 + (1 : Int32)))] [] h3 ro ho) : xm_E X P d co_X0_isToldBefore 2 [some (.ref l0), some (.int l1), some (.int l2)] [] h ro ho := by
  refine xm_E_s r_X0_isToldBefore_2 rfl rfl ?_
  refine xm_E_s r_X0_isToldBefore_3 rfl rfl ?_
  refine xm_E_s r_X0_isToldBefore_4 rfl rfl ?_
  refine xm_E_f q0 ?_
  refine xm_E_s r_X0_isToldBefore_5 rfl rfl ?_
  refine xm_E_s r_X0_isToldBefore_6 rfl rfl ?_
  refine xm_E_cv [.ref l0, .int l2] [] r_X0_isToldBefore_7 rfl rfl (Nat.le_of_ble_eq_true rfl) (xm_rc q2 (by decide)) rfl q1 ?_
  refine xm_E_s r_X0_isToldBefore_8 rfl rfl ?_
  refine xm_E_s r_X0_isToldBefore_9 rfl rfl ?_
  refine xm_E_cv [.ref l0, .int l1] [.int r0] r_X0_isToldBefore_10 rfl rfl (Nat.le_of_ble_eq_true rfl) (xm_rc q2 (by decide)) rfl q3 ?_
  refine xm_E_s r_X0_isToldBefore_11 rfl rfl ?_
  refine xm_E_t q4 ?_
  refine xm_E_s r_X0_isToldBefore_12 rfl rfl ?_
  refine xm_E_s r_X0_isToldBefore_13 rfl rfl ?_
  refine xm_E_cv [.ref l0, .int l2] [] r_X0_isToldBefore_14 rfl rfl (Nat.le_of_ble_eq_true rfl) (xm_rc q2 (by decide)) rfl q5 ?_
  refine xm_E_s r_X0_isToldBefore_15 rfl rfl ?_
  refine xm_E_s r_X0_isToldBefore_16 rfl rfl ?_
  refine xm_E_cv [.ref l0, .int l1] [.int r2] r_X0_isToldBefore_17 rfl rfl (Nat.le_of_ble_eq_true rfl) (xm_rc q2 (by decide)) rfl q6 ?_
  refine xm_E_s r_X0_isToldBefore_18 rfl rfl ?_
  refine xm_E_f q7 ?_
  refine xm_E_s (ls1 := [some (.ref l0), some (.int l1), some (.int (l2 + (1 : Int32)))]) r_X0_isToldBefore_21 rfl rfl ?_
  refine xm_E_s r_X0_isToldBefore_22 rfl rfl ?_
  exact K
theorem p_X0_isToldBefore_2_3 {X : xm_X} {P : List xm_M} {d : Nat} {h : xm_H} {l0 : Nat} {l1 : Int32} {l2 : Int32} {h0 : xm_H} {r0 : Int32} {h1 : xm_H} {r1 : Int32} {ro : Option Value} {ho : xm_H} (q0 : ¬ (l1 ≤ l2)) (q1 : xm_V X P d 58 [.ref l0, .int l2] h (some (.int r0)) h0) (q2 : X.1[l0]? = some (.inr 0)) (q3 : xm_V X P d 58 [.ref l0, .int l1] h0 (some (.int r1)) h1) (q4 : ¬ (r0 = r1)) (K : xm_E X P d co_X0_isToldBefore 2 [some (.ref l0), some (.int l1), some (.int (l2 + (1 : Int32)))] [] h1 ro ho) : xm_E X P d co_X0_isToldBefore 2 [some (.ref l0), some (.int l1), some (.int l2)] [] h ro ho := by
  refine xm_E_s r_X0_isToldBefore_2 rfl rfl ?_
  refine xm_E_s r_X0_isToldBefore_3 rfl rfl ?_
  refine xm_E_s r_X0_isToldBefore_4 rfl rfl ?_
  refine xm_E_f q0 ?_
  refine xm_E_s r_X0_isToldBefore_5 rfl rfl ?_
  refine xm_E_s r_X0_isToldBefore_6 rfl rfl ?_
  refine xm_E_cv [.ref l0, .int l2] [] r_X0_isToldBefore_7 rfl rfl (Nat.le_of_ble_eq_true rfl) (xm_rc q2 (by decide)) rfl q1 ?_
  refine xm_E_s r_X0_isToldBefore_8 rfl rfl ?_
  refine xm_E_s r_X0_isToldBefore_9 rfl rfl ?_
  refine xm_E_cv [.ref l0, .int l1] [.int r0] r_X0_isToldBefore_10 rfl rfl (Nat.le_of_ble_eq_true rfl) (xm_rc q2 (by decide)) rfl q3 ?_
  refine xm_E_s r_X0_isToldBefore_11 rfl rfl ?_
  refine xm_E_f q4 ?_
  refine xm_E_s (ls1 := [some (.ref l0), some (.int l1), some (.int (l2 + (1 : Int32)))]) r_X0_isToldBefore_21 rfl rfl ?_
  refine xm_E_s r_X0_isToldBefore_22 rfl rfl ?_
  exact K
theorem r_X0_rightOfTenThousand_0 : co_X0_rightOfTenThousand[0]? = some ((0, .aload_n 0, 0, 0, 0, 0, 0, 0, []) : xm_I) := rfl
theorem r_X0_rightOfTenThousand_1 : co_X0_rightOfTenThousand[1]? = some ((1, .iload_n 1, 0, 0, 0, 0, 0, 0, []) : xm_I) := rfl
theorem r_X0_rightOfTenThousand_2 : co_X0_rightOfTenThousand[2]? = some ((2, .invokevirtual 122, 789, 58, 2, 0, 0, 0, []) : xm_I) := rfl
theorem r_X0_rightOfTenThousand_3 : co_X0_rightOfTenThousand[3]? = some ((5, .invokestatic 134, 1129, 135, 1, 0, 0, 0, []) : xm_I) := rfl
theorem r_X0_rightOfTenThousand_4 : co_X0_rightOfTenThousand[4]? = some ((8, .ifCond .eq 13, 0, 0, 10, 0, 0, 0, []) : xm_I) := rfl
theorem r_X0_rightOfTenThousand_5 : co_X0_rightOfTenThousand[5]? = some ((11, .bipush 100, 0, 0, 0, 0, 100, 0, []) : xm_I) := rfl
theorem r_X0_rightOfTenThousand_6 : co_X0_rightOfTenThousand[6]? = some ((13, .aload_n 0, 0, 0, 0, 0, 0, 0, []) : xm_I) := rfl
theorem r_X0_rightOfTenThousand_7 : co_X0_rightOfTenThousand[7]? = some ((14, .getfield 59, 227, 0, 7, 0, 0, 0, []) : xm_I) := rfl
theorem r_X0_rightOfTenThousand_8 : co_X0_rightOfTenThousand[8]? = some ((17, .isub, 0, 0, 0, 0, 0, 0, []) : xm_I) := rfl
theorem r_X0_rightOfTenThousand_9 : co_X0_rightOfTenThousand[9]? = some ((18, .goto 5, 0, 0, 11, 0, 0, 0, []) : xm_I) := rfl
theorem r_X0_rightOfTenThousand_10 : co_X0_rightOfTenThousand[10]? = some ((21, .bipush 100, 0, 0, 0, 0, 100, 0, []) : xm_I) := rfl
theorem r_X0_rightOfTenThousand_11 : co_X0_rightOfTenThousand[11]? = some ((23, .istore_n 2, 0, 0, 0, 0, 0, 0, []) : xm_I) := rfl
theorem r_X0_rightOfTenThousand_12 : co_X0_rightOfTenThousand[12]? = some ((24, .aload_n 0, 0, 0, 0, 0, 0, 0, []) : xm_I) := rfl
theorem r_X0_rightOfTenThousand_13 : co_X0_rightOfTenThousand[13]? = some ((25, .iload_n 1, 0, 0, 0, 0, 0, 0, []) : xm_I) := rfl
theorem r_X0_rightOfTenThousand_14 : co_X0_rightOfTenThousand[14]? = some ((26, .invokevirtual 125, 793, 59, 2, 0, 0, 0, []) : xm_I) := rfl
theorem r_X0_rightOfTenThousand_15 : co_X0_rightOfTenThousand[15]? = some ((29, .invokestatic 134, 1129, 135, 1, 0, 0, 0, []) : xm_I) := rfl
theorem r_X0_rightOfTenThousand_16 : co_X0_rightOfTenThousand[16]? = some ((32, .ifCond .eq 13, 0, 0, 22, 0, 0, 0, []) : xm_I) := rfl
theorem r_X0_rightOfTenThousand_17 : co_X0_rightOfTenThousand[17]? = some ((35, .bipush 100, 0, 0, 0, 0, 100, 0, []) : xm_I) := rfl
theorem r_X0_rightOfTenThousand_18 : co_X0_rightOfTenThousand[18]? = some ((37, .aload_n 0, 0, 0, 0, 0, 0, 0, []) : xm_I) := rfl
theorem r_X0_rightOfTenThousand_19 : co_X0_rightOfTenThousand[19]? = some ((38, .getfield 62, 231, 0, 8, 0, 0, 0, []) : xm_I) := rfl
theorem r_X0_rightOfTenThousand_20 : co_X0_rightOfTenThousand[20]? = some ((41, .isub, 0, 0, 0, 0, 0, 0, []) : xm_I) := rfl
theorem r_X0_rightOfTenThousand_21 : co_X0_rightOfTenThousand[21]? = some ((42, .goto 5, 0, 0, 23, 0, 0, 0, []) : xm_I) := rfl
theorem r_X0_rightOfTenThousand_22 : co_X0_rightOfTenThousand[22]? = some ((45, .bipush 100, 0, 0, 0, 0, 100, 0, []) : xm_I) := rfl
theorem r_X0_rightOfTenThousand_23 : co_X0_rightOfTenThousand[23]? = some ((47, .istore_n 3, 0, 0, 0, 0, 0, 0, []) : xm_I) := rfl
theorem r_X0_rightOfTenThousand_24 : co_X0_rightOfTenThousand[24]? = some ((48, .iload_n 2, 0, 0, 0, 0, 0, 0, []) : xm_I) := rfl
theorem r_X0_rightOfTenThousand_25 : co_X0_rightOfTenThousand[25]? = some ((49, .iload_n 3, 0, 0, 0, 0, 0, 0, []) : xm_I) := rfl
theorem r_X0_rightOfTenThousand_26 : co_X0_rightOfTenThousand[26]? = some ((50, .imul, 0, 0, 0, 0, 0, 0, []) : xm_I) := rfl
theorem r_X0_rightOfTenThousand_27 : co_X0_rightOfTenThousand[27]? = some ((51, .ireturn, 0, 0, 0, 0, 0, 0, []) : xm_I) := rfl
theorem p_X0_rightOfTenThousand_0_0 {X : xm_X} {P : List xm_M} {d : Nat} {h : xm_H} {l0 : Nat} {l1 : Int32} {h0 : xm_H} {r0 : Int32} {h1 : xm_H} {r1 : Int32} {h2 : xm_H} {r2 : Int32} {h3 : xm_H} {r3 : Int32} (q0 : xm_V X P d 58 [.ref l0, .int l1] h (some (.int r0)) h0) (q1 : X.1[l0]? = some (.inr 0)) (q2 : xm_V X P d 135 [.int r0] h0 (some (.int r1)) h1) (q3 : r1 = (0 : Int32)) (q4 : xm_V X P d 59 [.ref l0, .int l1] h1 (some (.int r2)) h2) (q5 : xm_V X P d 135 [.int r2] h2 (some (.int r3)) h3) (q6 : r3 = (0 : Int32)) : xm_E X P d co_X0_rightOfTenThousand 0 [some (.ref l0), some (.int l1), none, none] [] h (some (.int ((100 : Int32) * (100 : Int32)))) h3 := by
  refine xm_E_s r_X0_rightOfTenThousand_0 rfl rfl ?_
  refine xm_E_s r_X0_rightOfTenThousand_1 rfl rfl ?_
  refine xm_E_cv [.ref l0, .int l1] [] r_X0_rightOfTenThousand_2 rfl rfl (Nat.le_of_ble_eq_true rfl) (xm_rc q1 (by decide)) rfl q0 ?_
  refine xm_E_cs [.int r0] [] r_X0_rightOfTenThousand_3 rfl rfl rfl (Nat.le_of_ble_eq_true rfl) rfl q2 ?_
  refine xm_E_s r_X0_rightOfTenThousand_4 rfl rfl ?_
  refine xm_E_t q3 ?_
  refine xm_E_s r_X0_rightOfTenThousand_10 rfl rfl ?_
  refine xm_E_s (ls1 := [some (.ref l0), some (.int l1), some (.int (100 : Int32)), none]) r_X0_rightOfTenThousand_11 rfl rfl ?_
  refine xm_E_s r_X0_rightOfTenThousand_12 rfl rfl ?_
  refine xm_E_s r_X0_rightOfTenThousand_13 rfl rfl ?_
  refine xm_E_cv [.ref l0, .int l1] [] r_X0_rightOfTenThousand_14 rfl rfl (Nat.le_of_ble_eq_true rfl) (xm_rc q1 (by decide)) rfl q4 ?_
  refine xm_E_cs [.int r2] [] r_X0_rightOfTenThousand_15 rfl rfl rfl (Nat.le_of_ble_eq_true rfl) rfl q5 ?_
  refine xm_E_s r_X0_rightOfTenThousand_16 rfl rfl ?_
  refine xm_E_t q6 ?_
  refine xm_E_s r_X0_rightOfTenThousand_22 rfl rfl ?_
  refine xm_E_s (ls1 := [some (.ref l0), some (.int l1), some (.int (100 : Int32)), some (.int (100 : Int32))]) r_X0_rightOfTenThousand_23 rfl rfl ?_
  refine xm_E_s r_X0_rightOfTenThousand_24 rfl rfl ?_
  refine xm_E_s r_X0_rightOfTenThousand_25 rfl rfl ?_
  refine xm_E_s r_X0_rightOfTenThousand_26 rfl rfl ?_
  exact xm_E_iret r_X0_rightOfTenThousand_27 rfl rfl
theorem p_X0_rightOfTenThousand_0_1 {X : xm_X} {P : List xm_M} {d : Nat} {h : xm_H} {l0 : Nat} {l1 : Int32} {h0 : xm_H} {r0 : Int32} {h1 : xm_H} {r1 : Int32} {h2 : xm_H} {r2 : Int32} {h3 : xm_H} {r3 : Int32} (q0 : xm_V X P d 58 [.ref l0, .int l1] h (some (.int r0)) h0) (q1 : X.1[l0]? = some (.inr 0)) (q2 : xm_V X P d 135 [.int r0] h0 (some (.int r1)) h1) (q3 : r1 = (0 : Int32)) (q4 : xm_V X P d 59 [.ref l0, .int l1] h1 (some (.int r2)) h2) (q5 : xm_V X P d 135 [.int r2] h2 (some (.int r3)) h3) (q6 : ¬ (r3 = (0 : Int32))) : xm_E X P d co_X0_rightOfTenThousand 0 [some (.ref l0), some (.int l1), none, none] [] h (some (.int ((100 : Int32) * ((100 : Int32) - (h3.1 l0 8))))) h3 := by
  refine xm_E_s r_X0_rightOfTenThousand_0 rfl rfl ?_
  refine xm_E_s r_X0_rightOfTenThousand_1 rfl rfl ?_
  refine xm_E_cv [.ref l0, .int l1] [] r_X0_rightOfTenThousand_2 rfl rfl (Nat.le_of_ble_eq_true rfl) (xm_rc q1 (by decide)) rfl q0 ?_
  refine xm_E_cs [.int r0] [] r_X0_rightOfTenThousand_3 rfl rfl rfl (Nat.le_of_ble_eq_true rfl) rfl q2 ?_
  refine xm_E_s r_X0_rightOfTenThousand_4 rfl rfl ?_
  refine xm_E_t q3 ?_
  refine xm_E_s r_X0_rightOfTenThousand_10 rfl rfl ?_
  refine xm_E_s (ls1 := [some (.ref l0), some (.int l1), some (.int (100 : Int32)), none]) r_X0_rightOfTenThousand_11 rfl rfl ?_
  refine xm_E_s r_X0_rightOfTenThousand_12 rfl rfl ?_
  refine xm_E_s r_X0_rightOfTenThousand_13 rfl rfl ?_
  refine xm_E_cv [.ref l0, .int l1] [] r_X0_rightOfTenThousand_14 rfl rfl (Nat.le_of_ble_eq_true rfl) (xm_rc q1 (by decide)) rfl q4 ?_
  refine xm_E_cs [.int r2] [] r_X0_rightOfTenThousand_15 rfl rfl rfl (Nat.le_of_ble_eq_true rfl) rfl q5 ?_
  refine xm_E_s r_X0_rightOfTenThousand_16 rfl rfl ?_
  refine xm_E_f q6 ?_
  refine xm_E_s r_X0_rightOfTenThousand_17 rfl rfl ?_
  refine xm_E_s r_X0_rightOfTenThousand_18 rfl rfl ?_
  refine xm_E_s r_X0_rightOfTenThousand_19 rfl (xm_T_gi rfl q1 rfl (Or.inl rfl)) ?_
  refine xm_E_s r_X0_rightOfTenThousand_20 rfl rfl ?_
  refine xm_E_s r_X0_rightOfTenThousand_21 rfl rfl ?_
  refine xm_E_s (ls1 := [some (.ref l0), some (.int l1), some (.int (100 : Int32)), some (.int ((100 : Int32) - (h3.1 l0 8)))]) r_X0_rightOfTenThousand_23 rfl rfl ?_
  refine xm_E_s r_X0_rightOfTenThousand_24 rfl rfl ?_
  refine xm_E_s r_X0_rightOfTenThousand_25 rfl rfl ?_
  refine xm_E_s r_X0_rightOfTenThousand_26 rfl rfl ?_
  exact xm_E_iret r_X0_rightOfTenThousand_27 rfl rfl
theorem p_X0_rightOfTenThousand_0_2 {X : xm_X} {P : List xm_M} {d : Nat} {h : xm_H} {l0 : Nat} {l1 : Int32} {h0 : xm_H} {r0 : Int32} {h1 : xm_H} {r1 : Int32} {h2 : xm_H} {r2 : Int32} {h3 : xm_H} {r3 : Int32} (q0 : xm_V X P d 58 [.ref l0, .int l1] h (some (.int r0)) h0) (q1 : X.1[l0]? = some (.inr 0)) (q2 : xm_V X P d 135 [.int r0] h0 (some (.int r1)) h1) (q3 : ¬ (r1 = (0 : Int32))) (q4 : xm_V X P d 59 [.ref l0, .int l1] h1 (some (.int r2)) h2) (q5 : xm_V X P d 135 [.int r2] h2 (some (.int r3)) h3) (q6 : r3 = (0 : Int32)) : xm_E X P d co_X0_rightOfTenThousand 0 [some (.ref l0), some (.int l1), none, none] [] h (some (.int (((100 : Int32) - (h1.1 l0 7)) * (100 : Int32)))) h3 := by
  refine xm_E_s r_X0_rightOfTenThousand_0 rfl rfl ?_
  refine xm_E_s r_X0_rightOfTenThousand_1 rfl rfl ?_
  refine xm_E_cv [.ref l0, .int l1] [] r_X0_rightOfTenThousand_2 rfl rfl (Nat.le_of_ble_eq_true rfl) (xm_rc q1 (by decide)) rfl q0 ?_
  refine xm_E_cs [.int r0] [] r_X0_rightOfTenThousand_3 rfl rfl rfl (Nat.le_of_ble_eq_true rfl) rfl q2 ?_
  refine xm_E_s r_X0_rightOfTenThousand_4 rfl rfl ?_
  refine xm_E_f q3 ?_
  refine xm_E_s r_X0_rightOfTenThousand_5 rfl rfl ?_
  refine xm_E_s r_X0_rightOfTenThousand_6 rfl rfl ?_
  refine xm_E_s r_X0_rightOfTenThousand_7 rfl (xm_T_gi rfl q1 rfl (Or.inl rfl)) ?_
  refine xm_E_s r_X0_rightOfTenThousand_8 rfl rfl ?_
  refine xm_E_s r_X0_rightOfTenThousand_9 rfl rfl ?_
  refine xm_E_s (ls1 := [some (.ref l0), some (.int l1), some (.int ((100 : Int32) - (h1.1 l0 7))), none]) r_X0_rightOfTenThousand_11 rfl rfl ?_
  refine xm_E_s r_X0_rightOfTenThousand_12 rfl rfl ?_
  refine xm_E_s r_X0_rightOfTenThousand_13 rfl rfl ?_
  refine xm_E_cv [.ref l0, .int l1] [] r_X0_rightOfTenThousand_14 rfl rfl (Nat.le_of_ble_eq_true rfl) (xm_rc q1 (by decide)) rfl q4 ?_
  refine xm_E_cs [.int r2] [] r_X0_rightOfTenThousand_15 rfl rfl rfl (Nat.le_of_ble_eq_true rfl) rfl q5 ?_
  refine xm_E_s r_X0_rightOfTenThousand_16 rfl rfl ?_
  refine xm_E_t q6 ?_
  refine xm_E_s r_X0_rightOfTenThousand_22 rfl rfl ?_
  refine xm_E_s (ls1 := [some (.ref l0), some (.int l1), some (.int ((100 : Int32) - (h1.1 l0 7))), some (.int (100 : Int32))]) r_X0_rightOfTenThousand_23 rfl rfl ?_
  refine xm_E_s r_X0_rightOfTenThousand_24 rfl rfl ?_
  refine xm_E_s r_X0_rightOfTenThousand_25 rfl rfl ?_
  refine xm_E_s r_X0_rightOfTenThousand_26 rfl rfl ?_
  exact xm_E_iret r_X0_rightOfTenThousand_27 rfl rfl
theorem p_X0_rightOfTenThousand_0_3 {X : xm_X} {P : List xm_M} {d : Nat} {h : xm_H} {l0 : Nat} {l1 : Int32} {h0 : xm_H} {r0 : Int32} {h1 : xm_H} {r1 : Int32} {h2 : xm_H} {r2 : Int32} {h3 : xm_H} {r3 : Int32} (q0 : xm_V X P d 58 [.ref l0, .int l1] h (some (.int r0)) h0) (q1 : X.1[l0]? = some (.inr 0)) (q2 : xm_V X P d 135 [.int r0] h0 (some (.int r1)) h1) (q3 : ¬ (r1 = (0 : Int32))) (q4 : xm_V X P d 59 [.ref l0, .int l1] h1 (some (.int r2)) h2) (q5 : xm_V X P d 135 [.int r2] h2 (some (.int r3)) h3) (q6 : ¬ (r3 = (0 : Int32))) : xm_E X P d co_X0_rightOfTenThousand 0 [some (.ref l0), some (.int l1), none, none] [] h (some (.int (((100 : Int32) - (h1.1 l0 7)) * ((100 : Int32) - (h3.1 l0 8))))) h3 := by
  refine xm_E_s r_X0_rightOfTenThousand_0 rfl rfl ?_
  refine xm_E_s r_X0_rightOfTenThousand_1 rfl rfl ?_
  refine xm_E_cv [.ref l0, .int l1] [] r_X0_rightOfTenThousand_2 rfl rfl (Nat.le_of_ble_eq_true rfl) (xm_rc q1 (by decide)) rfl q0 ?_
  refine xm_E_cs [.int r0] [] r_X0_rightOfTenThousand_3 rfl rfl rfl (Nat.le_of_ble_eq_true rfl) rfl q2 ?_
  refine xm_E_s r_X0_rightOfTenThousand_4 rfl rfl ?_
  refine xm_E_f q3 ?_
  refine xm_E_s r_X0_rightOfTenThousand_5 rfl rfl ?_
  refine xm_E_s r_X0_rightOfTenThousand_6 rfl rfl ?_
  refine xm_E_s r_X0_rightOfTenThousand_7 rfl (xm_T_gi rfl q1 rfl (Or.inl rfl)) ?_
  refine xm_E_s r_X0_rightOfTenThousand_8 rfl rfl ?_
  refine xm_E_s r_X0_rightOfTenThousand_9 rfl rfl ?_
  refine xm_E_s (ls1 := [some (.ref l0), some (.int l1), some (.int ((100 : Int32) - (h1.1 l0 7))), none]) r_X0_rightOfTenThousand_11 rfl rfl ?_
  refine xm_E_s r_X0_rightOfTenThousand_12 rfl rfl ?_
  refine xm_E_s r_X0_rightOfTenThousand_13 rfl rfl ?_
  refine xm_E_cv [.ref l0, .int l1] [] r_X0_rightOfTenThousand_14 rfl rfl (Nat.le_of_ble_eq_true rfl) (xm_rc q1 (by decide)) rfl q4 ?_
  refine xm_E_cs [.int r2] [] r_X0_rightOfTenThousand_15 rfl rfl rfl (Nat.le_of_ble_eq_true rfl) rfl q5 ?_
  refine xm_E_s r_X0_rightOfTenThousand_16 rfl rfl ?_
  refine xm_E_f q6 ?_
  refine xm_E_s r_X0_rightOfTenThousand_17 rfl rfl ?_
  refine xm_E_s r_X0_rightOfTenThousand_18 rfl rfl ?_
  refine xm_E_s r_X0_rightOfTenThousand_19 rfl (xm_T_gi rfl q1 rfl (Or.inl rfl)) ?_
  refine xm_E_s r_X0_rightOfTenThousand_20 rfl rfl ?_
  refine xm_E_s r_X0_rightOfTenThousand_21 rfl rfl ?_
  refine xm_E_s (ls1 := [some (.ref l0), some (.int l1), some (.int ((100 : Int32) - (h1.1 l0 7))), some (.int ((100 : Int32) - (h3.1 l0 8)))]) r_X0_rightOfTenThousand_23 rfl rfl ?_
  refine xm_E_s r_X0_rightOfTenThousand_24 rfl rfl ?_
  refine xm_E_s r_X0_rightOfTenThousand_25 rfl rfl ?_
  refine xm_E_s r_X0_rightOfTenThousand_26 rfl rfl ?_
  exact xm_E_iret r_X0_rightOfTenThousand_27 rfl rfl
theorem r_X0_canSlip_0 : co_X0_canSlip[0]? = some ((0, .iload_n 0, 0, 0, 0, 0, 0, 0, []) : xm_I) := rfl
theorem r_X0_canSlip_1 : co_X0_canSlip[1]? = some ((1, .ifCond .eq 8, 0, 0, 5, 0, 0, 0, []) : xm_I) := rfl
theorem r_X0_canSlip_2 : co_X0_canSlip[2]? = some ((4, .iload_n 0, 0, 0, 0, 0, 0, 0, []) : xm_I) := rfl
theorem r_X0_canSlip_3 : co_X0_canSlip[3]? = some ((5, .iconst 1, 0, 0, 0, 0, 1, 0, []) : xm_I) := rfl
theorem r_X0_canSlip_4 : co_X0_canSlip[4]? = some ((6, .if_icmp .ne 7, 0, 0, 7, 0, 0, 0, []) : xm_I) := rfl
theorem r_X0_canSlip_5 : co_X0_canSlip[5]? = some ((9, .iconst 1, 0, 0, 0, 0, 1, 0, []) : xm_I) := rfl
theorem r_X0_canSlip_6 : co_X0_canSlip[6]? = some ((10, .goto 4, 0, 0, 8, 0, 0, 0, []) : xm_I) := rfl
theorem r_X0_canSlip_7 : co_X0_canSlip[7]? = some ((13, .iconst 0, 0, 0, 0, 0, 0, 0, []) : xm_I) := rfl
theorem r_X0_canSlip_8 : co_X0_canSlip[8]? = some ((14, .ireturn, 0, 0, 0, 3, 0, 0, []) : xm_I) := rfl
theorem p_X0_canSlip_0_0 {X : xm_X} {P : List xm_M} {d : Nat} {h : xm_H} {l0 : Int32} (q0 : l0 = (0 : Int32)) : xm_E X P d co_X0_canSlip 0 [some (.int l0)] [] h (some (.int (1 : Int32))) h := by
  refine xm_E_s r_X0_canSlip_0 rfl rfl ?_
  refine xm_E_s r_X0_canSlip_1 rfl rfl ?_
  refine xm_E_t q0 ?_
  refine xm_E_s r_X0_canSlip_5 rfl rfl ?_
  refine xm_E_s r_X0_canSlip_6 rfl rfl ?_
  exact xm_E_iret r_X0_canSlip_8 rfl rfl
theorem p_X0_canSlip_0_1 {X : xm_X} {P : List xm_M} {d : Nat} {h : xm_H} {l0 : Int32} (q0 : ¬ (l0 = (0 : Int32))) (q1 : l0 = (1 : Int32)) : xm_E X P d co_X0_canSlip 0 [some (.int l0)] [] h (some (.int (1 : Int32))) h := by
  refine xm_E_s r_X0_canSlip_0 rfl rfl ?_
  refine xm_E_s r_X0_canSlip_1 rfl rfl ?_
  refine xm_E_f q0 ?_
  refine xm_E_s r_X0_canSlip_2 rfl rfl ?_
  refine xm_E_s r_X0_canSlip_3 rfl rfl ?_
  refine xm_E_s r_X0_canSlip_4 rfl rfl ?_
  refine xm_E_t q1 ?_
  refine xm_E_s r_X0_canSlip_5 rfl rfl ?_
  refine xm_E_s r_X0_canSlip_6 rfl rfl ?_
  exact xm_E_iret r_X0_canSlip_8 rfl rfl
theorem p_X0_canSlip_0_2 {X : xm_X} {P : List xm_M} {d : Nat} {h : xm_H} {l0 : Int32} (q0 : ¬ (l0 = (0 : Int32))) (q1 : ¬ (l0 = (1 : Int32))) : xm_E X P d co_X0_canSlip 0 [some (.int l0)] [] h (some (.int (0 : Int32))) h := by
  refine xm_E_s r_X0_canSlip_0 rfl rfl ?_
  refine xm_E_s r_X0_canSlip_1 rfl rfl ?_
  refine xm_E_f q0 ?_
  refine xm_E_s r_X0_canSlip_2 rfl rfl ?_
  refine xm_E_s r_X0_canSlip_3 rfl rfl ?_
  refine xm_E_s r_X0_canSlip_4 rfl rfl ?_
  refine xm_E_f q1 ?_
  refine xm_E_s r_X0_canSlip_7 rfl rfl ?_
  exact xm_E_iret r_X0_canSlip_8 rfl rfl
theorem r_X0_twistsOfTenThousand_0 : co_X0_twistsOfTenThousand[0]? = some ((0, .aload_n 0, 0, 0, 0, 0, 0, 0, []) : xm_I) := rfl
theorem r_X0_twistsOfTenThousand_1 : co_X0_twistsOfTenThousand[1]? = some ((1, .iload_n 1, 0, 0, 0, 0, 0, 0, []) : xm_I) := rfl
theorem r_X0_twistsOfTenThousand_2 : co_X0_twistsOfTenThousand[2]? = some ((2, .invokevirtual 122, 789, 58, 2, 0, 0, 0, []) : xm_I) := rfl
theorem r_X0_twistsOfTenThousand_3 : co_X0_twistsOfTenThousand[3]? = some ((5, .invokestatic 134, 1129, 135, 1, 0, 0, 0, []) : xm_I) := rfl
theorem r_X0_twistsOfTenThousand_4 : co_X0_twistsOfTenThousand[4]? = some ((8, .ifCond .eq 14, 0, 0, 10, 0, 0, 0, []) : xm_I) := rfl
theorem r_X0_twistsOfTenThousand_5 : co_X0_twistsOfTenThousand[5]? = some ((11, .aload_n 0, 0, 0, 0, 0, 0, 0, []) : xm_I) := rfl
theorem r_X0_twistsOfTenThousand_6 : co_X0_twistsOfTenThousand[6]? = some ((12, .iload_n 1, 0, 0, 0, 0, 0, 0, []) : xm_I) := rfl
theorem r_X0_twistsOfTenThousand_7 : co_X0_twistsOfTenThousand[7]? = some ((13, .invokevirtual 125, 793, 59, 2, 0, 0, 0, []) : xm_I) := rfl
theorem r_X0_twistsOfTenThousand_8 : co_X0_twistsOfTenThousand[8]? = some ((16, .invokestatic 134, 1129, 135, 1, 0, 0, 0, []) : xm_I) := rfl
theorem r_X0_twistsOfTenThousand_9 : co_X0_twistsOfTenThousand[9]? = some ((19, .ifCond .ne 5, 0, 0, 12, 0, 0, 0, []) : xm_I) := rfl
theorem r_X0_twistsOfTenThousand_10 : co_X0_twistsOfTenThousand[10]? = some ((22, .iconst 0, 0, 0, 0, 0, 0, 0, []) : xm_I) := rfl
theorem r_X0_twistsOfTenThousand_11 : co_X0_twistsOfTenThousand[11]? = some ((23, .ireturn, 0, 0, 0, 0, 0, 0, []) : xm_I) := rfl
theorem r_X0_twistsOfTenThousand_12 : co_X0_twistsOfTenThousand[12]? = some ((24, .aload_n 0, 0, 0, 0, 0, 0, 0, []) : xm_I) := rfl
theorem r_X0_twistsOfTenThousand_13 : co_X0_twistsOfTenThousand[13]? = some ((25, .getfield 59, 227, 0, 7, 0, 0, 0, []) : xm_I) := rfl
theorem r_X0_twistsOfTenThousand_14 : co_X0_twistsOfTenThousand[14]? = some ((28, .bipush 100, 0, 0, 0, 0, 100, 0, []) : xm_I) := rfl
theorem r_X0_twistsOfTenThousand_15 : co_X0_twistsOfTenThousand[15]? = some ((30, .aload_n 0, 0, 0, 0, 0, 0, 0, []) : xm_I) := rfl
theorem r_X0_twistsOfTenThousand_16 : co_X0_twistsOfTenThousand[16]? = some ((31, .getfield 62, 231, 0, 8, 0, 0, 0, []) : xm_I) := rfl
theorem r_X0_twistsOfTenThousand_17 : co_X0_twistsOfTenThousand[17]? = some ((34, .isub, 0, 0, 0, 0, 0, 0, []) : xm_I) := rfl
theorem r_X0_twistsOfTenThousand_18 : co_X0_twistsOfTenThousand[18]? = some ((35, .imul, 0, 0, 0, 0, 0, 0, []) : xm_I) := rfl
theorem r_X0_twistsOfTenThousand_19 : co_X0_twistsOfTenThousand[19]? = some ((36, .aload_n 0, 0, 0, 0, 0, 0, 0, []) : xm_I) := rfl
theorem r_X0_twistsOfTenThousand_20 : co_X0_twistsOfTenThousand[20]? = some ((37, .getfield 62, 231, 0, 8, 0, 0, 0, []) : xm_I) := rfl
theorem r_X0_twistsOfTenThousand_21 : co_X0_twistsOfTenThousand[21]? = some ((40, .bipush 100, 0, 0, 0, 0, 100, 0, []) : xm_I) := rfl
theorem r_X0_twistsOfTenThousand_22 : co_X0_twistsOfTenThousand[22]? = some ((42, .aload_n 0, 0, 0, 0, 0, 0, 0, []) : xm_I) := rfl
theorem r_X0_twistsOfTenThousand_23 : co_X0_twistsOfTenThousand[23]? = some ((43, .getfield 59, 227, 0, 7, 0, 0, 0, []) : xm_I) := rfl
theorem r_X0_twistsOfTenThousand_24 : co_X0_twistsOfTenThousand[24]? = some ((46, .isub, 0, 0, 0, 0, 0, 0, []) : xm_I) := rfl
theorem r_X0_twistsOfTenThousand_25 : co_X0_twistsOfTenThousand[25]? = some ((47, .imul, 0, 0, 0, 0, 0, 0, []) : xm_I) := rfl
theorem r_X0_twistsOfTenThousand_26 : co_X0_twistsOfTenThousand[26]? = some ((48, .iadd, 0, 0, 0, 0, 0, 0, []) : xm_I) := rfl
theorem r_X0_twistsOfTenThousand_27 : co_X0_twistsOfTenThousand[27]? = some ((49, .istore_n 2, 0, 0, 0, 0, 0, 0, []) : xm_I) := rfl
theorem r_X0_twistsOfTenThousand_28 : co_X0_twistsOfTenThousand[28]? = some ((50, .aload_n 0, 0, 0, 0, 0, 0, 0, []) : xm_I) := rfl
theorem r_X0_twistsOfTenThousand_29 : co_X0_twistsOfTenThousand[29]? = some ((51, .iload_n 1, 0, 0, 0, 0, 0, 0, []) : xm_I) := rfl
theorem r_X0_twistsOfTenThousand_30 : co_X0_twistsOfTenThousand[30]? = some ((52, .invokevirtual 122, 789, 58, 2, 0, 0, 0, []) : xm_I) := rfl
theorem r_X0_twistsOfTenThousand_31 : co_X0_twistsOfTenThousand[31]? = some ((55, .aload_n 0, 0, 0, 0, 0, 0, 0, []) : xm_I) := rfl
theorem r_X0_twistsOfTenThousand_32 : co_X0_twistsOfTenThousand[32]? = some ((56, .iload_n 1, 0, 0, 0, 0, 0, 0, []) : xm_I) := rfl
theorem r_X0_twistsOfTenThousand_33 : co_X0_twistsOfTenThousand[33]? = some ((57, .invokevirtual 125, 793, 59, 2, 0, 0, 0, []) : xm_I) := rfl
theorem r_X0_twistsOfTenThousand_34 : co_X0_twistsOfTenThousand[34]? = some ((60, .if_icmp .ne 7, 0, 0, 37, 0, 0, 0, []) : xm_I) := rfl
theorem r_X0_twistsOfTenThousand_35 : co_X0_twistsOfTenThousand[35]? = some ((63, .iload_n 2, 0, 0, 0, 0, 0, 0, []) : xm_I) := rfl
theorem r_X0_twistsOfTenThousand_36 : co_X0_twistsOfTenThousand[36]? = some ((64, .goto 8, 0, 0, 40, 0, 0, 0, []) : xm_I) := rfl
theorem r_X0_twistsOfTenThousand_37 : co_X0_twistsOfTenThousand[37]? = some ((67, .sipush 10000, 0, 0, 0, 0, 10000, 0, []) : xm_I) := rfl
theorem r_X0_twistsOfTenThousand_38 : co_X0_twistsOfTenThousand[38]? = some ((70, .iload_n 2, 0, 0, 0, 0, 0, 0, []) : xm_I) := rfl
theorem r_X0_twistsOfTenThousand_39 : co_X0_twistsOfTenThousand[39]? = some ((71, .isub, 0, 0, 0, 0, 0, 0, []) : xm_I) := rfl
theorem r_X0_twistsOfTenThousand_40 : co_X0_twistsOfTenThousand[40]? = some ((72, .ireturn, 0, 0, 0, 0, 0, 0, []) : xm_I) := rfl
theorem p_X0_twistsOfTenThousand_0_0 {X : xm_X} {P : List xm_M} {d : Nat} {h : xm_H} {l0 : Nat} {l1 : Int32} {h0 : xm_H} {r0 : Int32} {h1 : xm_H} {r1 : Int32} (q0 : xm_V X P d 58 [.ref l0, .int l1] h (some (.int r0)) h0) (q1 : X.1[l0]? = some (.inr 0)) (q2 : xm_V X P d 135 [.int r0] h0 (some (.int r1)) h1) (q3 : r1 = (0 : Int32)) : xm_E X P d co_X0_twistsOfTenThousand 0 [some (.ref l0), some (.int l1), none] [] h (some (.int (0 : Int32))) h1 := by
  refine xm_E_s r_X0_twistsOfTenThousand_0 rfl rfl ?_
  refine xm_E_s r_X0_twistsOfTenThousand_1 rfl rfl ?_
  refine xm_E_cv [.ref l0, .int l1] [] r_X0_twistsOfTenThousand_2 rfl rfl (Nat.le_of_ble_eq_true rfl) (xm_rc q1 (by decide)) rfl q0 ?_
  refine xm_E_cs [.int r0] [] r_X0_twistsOfTenThousand_3 rfl rfl rfl (Nat.le_of_ble_eq_true rfl) rfl q2 ?_
  refine xm_E_s r_X0_twistsOfTenThousand_4 rfl rfl ?_
  refine xm_E_t q3 ?_
  refine xm_E_s r_X0_twistsOfTenThousand_10 rfl rfl ?_
  exact xm_E_iret r_X0_twistsOfTenThousand_11 rfl rfl
theorem p_X0_twistsOfTenThousand_0_1 {X : xm_X} {P : List xm_M} {d : Nat} {h : xm_H} {l0 : Nat} {l1 : Int32} {h0 : xm_H} {r0 : Int32} {h1 : xm_H} {r1 : Int32} {h2 : xm_H} {r2 : Int32} {h3 : xm_H} {r3 : Int32} (q0 : xm_V X P d 58 [.ref l0, .int l1] h (some (.int r0)) h0) (q1 : X.1[l0]? = some (.inr 0)) (q2 : xm_V X P d 135 [.int r0] h0 (some (.int r1)) h1) (q3 : ¬ (r1 = (0 : Int32))) (q4 : xm_V X P d 59 [.ref l0, .int l1] h1 (some (.int r2)) h2) (q5 : xm_V X P d 135 [.int r2] h2 (some (.int r3)) h3) (q6 : r3 = (0 : Int32)) : xm_E X P d co_X0_twistsOfTenThousand 0 [some (.ref l0), some (.int l1), none] [] h (some (.int (0 : Int32))) h3 := by
  refine xm_E_s r_X0_twistsOfTenThousand_0 rfl rfl ?_
  refine xm_E_s r_X0_twistsOfTenThousand_1 rfl rfl ?_
  refine xm_E_cv [.ref l0, .int l1] [] r_X0_twistsOfTenThousand_2 rfl rfl (Nat.le_of_ble_eq_true rfl) (xm_rc q1 (by decide)) rfl q0 ?_
  refine xm_E_cs [.int r0] [] r_X0_twistsOfTenThousand_3 rfl rfl rfl (Nat.le_of_ble_eq_true rfl) rfl q2 ?_
  refine xm_E_s r_X0_twistsOfTenThousand_4 rfl rfl ?_
  refine xm_E_f q3 ?_
  refine xm_E_s r_X0_twistsOfTenThousand_5 rfl rfl ?_
  refine xm_E_s r_X0_twistsOfTenThousand_6 rfl rfl ?_
  refine xm_E_cv [.ref l0, .int l1] [] r_X0_twistsOfTenThousand_7 rfl rfl (Nat.le_of_ble_eq_true rfl) (xm_rc q1 (by decide)) rfl q4 ?_
  refine xm_E_cs [.int r2] [] r_X0_twistsOfTenThousand_8 rfl rfl rfl (Nat.le_of_ble_eq_true rfl) rfl q5 ?_
  refine xm_E_s r_X0_twistsOfTenThousand_9 rfl rfl ?_
  refine xm_E_t q6 ?_
  refine xm_E_s r_X0_twistsOfTenThousand_10 rfl rfl ?_
  exact xm_E_iret r_X0_twistsOfTenThousand_11 rfl rfl
theorem p_X0_twistsOfTenThousand_0_2 {X : xm_X} {P : List xm_M} {d : Nat} {h : xm_H} {l0 : Nat} {l1 : Int32} {h0 : xm_H} {r0 : Int32} {h1 : xm_H} {r1 : Int32} {h2 : xm_H} {r2 : Int32} {h3 : xm_H} {r3 : Int32} {h4 : xm_H} {r4 : Int32} {h5 : xm_H} {r5 : Int32} (q0 : xm_V X P d 58 [.ref l0, .int l1] h (some (.int r0)) h0) (q1 : X.1[l0]? = some (.inr 0)) (q2 : xm_V X P d 135 [.int r0] h0 (some (.int r1)) h1) (q3 : ¬ (r1 = (0 : Int32))) (q4 : xm_V X P d 59 [.ref l0, .int l1] h1 (some (.int r2)) h2) (q5 : xm_V X P d 135 [.int r2] h2 (some (.int r3)) h3) (q6 : ¬ (r3 = (0 : Int32))) (q7 : xm_V X P d 58 [.ref l0, .int l1] h3 (some (.int r4)) h4) (q8 : xm_V X P d 59 [.ref l0, .int l1] h4 (some (.int r5)) h5) (q9 : r4 = r5) : xm_E X P d co_X0_twistsOfTenThousand 0 [some (.ref l0), some (.int l1), none] [] h (some (.int (((h3.1 l0 7) * ((100 : Int32) - (h3.1 l0 8))) + ((h3.1 l0 8) * ((100 : Int32) - (h3.1 l0 7)))))) h5 := by
  refine xm_E_s r_X0_twistsOfTenThousand_0 rfl rfl ?_
  refine xm_E_s r_X0_twistsOfTenThousand_1 rfl rfl ?_
  refine xm_E_cv [.ref l0, .int l1] [] r_X0_twistsOfTenThousand_2 rfl rfl (Nat.le_of_ble_eq_true rfl) (xm_rc q1 (by decide)) rfl q0 ?_
  refine xm_E_cs [.int r0] [] r_X0_twistsOfTenThousand_3 rfl rfl rfl (Nat.le_of_ble_eq_true rfl) rfl q2 ?_
  refine xm_E_s r_X0_twistsOfTenThousand_4 rfl rfl ?_
  refine xm_E_f q3 ?_
  refine xm_E_s r_X0_twistsOfTenThousand_5 rfl rfl ?_
  refine xm_E_s r_X0_twistsOfTenThousand_6 rfl rfl ?_
  refine xm_E_cv [.ref l0, .int l1] [] r_X0_twistsOfTenThousand_7 rfl rfl (Nat.le_of_ble_eq_true rfl) (xm_rc q1 (by decide)) rfl q4 ?_
  refine xm_E_cs [.int r2] [] r_X0_twistsOfTenThousand_8 rfl rfl rfl (Nat.le_of_ble_eq_true rfl) rfl q5 ?_
  refine xm_E_s r_X0_twistsOfTenThousand_9 rfl rfl ?_
  refine xm_E_f q6 ?_
  refine xm_E_s r_X0_twistsOfTenThousand_12 rfl rfl ?_
  refine xm_E_s r_X0_twistsOfTenThousand_13 rfl (xm_T_gi rfl q1 rfl (Or.inl rfl)) ?_
  refine xm_E_s r_X0_twistsOfTenThousand_14 rfl rfl ?_
  refine xm_E_s r_X0_twistsOfTenThousand_15 rfl rfl ?_
  refine xm_E_s r_X0_twistsOfTenThousand_16 rfl (xm_T_gi rfl q1 rfl (Or.inl rfl)) ?_
  refine xm_E_s r_X0_twistsOfTenThousand_17 rfl rfl ?_
  refine xm_E_s r_X0_twistsOfTenThousand_18 rfl rfl ?_
  refine xm_E_s r_X0_twistsOfTenThousand_19 rfl rfl ?_
  refine xm_E_s r_X0_twistsOfTenThousand_20 rfl (xm_T_gi rfl q1 rfl (Or.inl rfl)) ?_
  refine xm_E_s r_X0_twistsOfTenThousand_21 rfl rfl ?_
  refine xm_E_s r_X0_twistsOfTenThousand_22 rfl rfl ?_
  refine xm_E_s r_X0_twistsOfTenThousand_23 rfl (xm_T_gi rfl q1 rfl (Or.inl rfl)) ?_
  refine xm_E_s r_X0_twistsOfTenThousand_24 rfl rfl ?_
  refine xm_E_s r_X0_twistsOfTenThousand_25 rfl rfl ?_
  refine xm_E_s r_X0_twistsOfTenThousand_26 rfl rfl ?_
  refine xm_E_s (ls1 := [some (.ref l0), some (.int l1), some (.int (((h3.1 l0 7) * ((100 : Int32) - (h3.1 l0 8))) + ((h3.1 l0 8) * ((100 : Int32) - (h3.1 l0 7)))))]) r_X0_twistsOfTenThousand_27 rfl rfl ?_
  refine xm_E_s r_X0_twistsOfTenThousand_28 rfl rfl ?_
  refine xm_E_s r_X0_twistsOfTenThousand_29 rfl rfl ?_
  refine xm_E_cv [.ref l0, .int l1] [] r_X0_twistsOfTenThousand_30 rfl rfl (Nat.le_of_ble_eq_true rfl) (xm_rc q1 (by decide)) rfl q7 ?_
  refine xm_E_s r_X0_twistsOfTenThousand_31 rfl rfl ?_
  refine xm_E_s r_X0_twistsOfTenThousand_32 rfl rfl ?_
  refine xm_E_cv [.ref l0, .int l1] [.int r4] r_X0_twistsOfTenThousand_33 rfl rfl (Nat.le_of_ble_eq_true rfl) (xm_rc q1 (by decide)) rfl q8 ?_
  refine xm_E_s r_X0_twistsOfTenThousand_34 rfl rfl ?_
  refine xm_E_t q9 ?_
  refine xm_E_s r_X0_twistsOfTenThousand_35 rfl rfl ?_
  refine xm_E_s r_X0_twistsOfTenThousand_36 rfl rfl ?_
  exact xm_E_iret r_X0_twistsOfTenThousand_40 rfl rfl
theorem p_X0_twistsOfTenThousand_0_3 {X : xm_X} {P : List xm_M} {d : Nat} {h : xm_H} {l0 : Nat} {l1 : Int32} {h0 : xm_H} {r0 : Int32} {h1 : xm_H} {r1 : Int32} {h2 : xm_H} {r2 : Int32} {h3 : xm_H} {r3 : Int32} {h4 : xm_H} {r4 : Int32} {h5 : xm_H} {r5 : Int32} (q0 : xm_V X P d 58 [.ref l0, .int l1] h (some (.int r0)) h0) (q1 : X.1[l0]? = some (.inr 0)) (q2 : xm_V X P d 135 [.int r0] h0 (some (.int r1)) h1) (q3 : ¬ (r1 = (0 : Int32))) (q4 : xm_V X P d 59 [.ref l0, .int l1] h1 (some (.int r2)) h2) (q5 : xm_V X P d 135 [.int r2] h2 (some (.int r3)) h3) (q6 : ¬ (r3 = (0 : Int32))) (q7 : xm_V X P d 58 [.ref l0, .int l1] h3 (some (.int r4)) h4) (q8 : xm_V X P d 59 [.ref l0, .int l1] h4 (some (.int r5)) h5) (q9 : ¬ (r4 = r5)) : xm_E X P d co_X0_twistsOfTenThousand 0 [some (.ref l0), some (.int l1), none] [] h (some (.int ((10000 : Int32) - (((h3.1 l0 7) * ((100 : Int32) - (h3.1 l0 8))) + ((h3.1 l0 8) * ((100 : Int32) - (h3.1 l0 7))))))) h5 := by
  refine xm_E_s r_X0_twistsOfTenThousand_0 rfl rfl ?_
  refine xm_E_s r_X0_twistsOfTenThousand_1 rfl rfl ?_
  refine xm_E_cv [.ref l0, .int l1] [] r_X0_twistsOfTenThousand_2 rfl rfl (Nat.le_of_ble_eq_true rfl) (xm_rc q1 (by decide)) rfl q0 ?_
  refine xm_E_cs [.int r0] [] r_X0_twistsOfTenThousand_3 rfl rfl rfl (Nat.le_of_ble_eq_true rfl) rfl q2 ?_
  refine xm_E_s r_X0_twistsOfTenThousand_4 rfl rfl ?_
  refine xm_E_f q3 ?_
  refine xm_E_s r_X0_twistsOfTenThousand_5 rfl rfl ?_
  refine xm_E_s r_X0_twistsOfTenThousand_6 rfl rfl ?_
  refine xm_E_cv [.ref l0, .int l1] [] r_X0_twistsOfTenThousand_7 rfl rfl (Nat.le_of_ble_eq_true rfl) (xm_rc q1 (by decide)) rfl q4 ?_
  refine xm_E_cs [.int r2] [] r_X0_twistsOfTenThousand_8 rfl rfl rfl (Nat.le_of_ble_eq_true rfl) rfl q5 ?_
  refine xm_E_s r_X0_twistsOfTenThousand_9 rfl rfl ?_
  refine xm_E_f q6 ?_
  refine xm_E_s r_X0_twistsOfTenThousand_12 rfl rfl ?_
  refine xm_E_s r_X0_twistsOfTenThousand_13 rfl (xm_T_gi rfl q1 rfl (Or.inl rfl)) ?_
  refine xm_E_s r_X0_twistsOfTenThousand_14 rfl rfl ?_
  refine xm_E_s r_X0_twistsOfTenThousand_15 rfl rfl ?_
  refine xm_E_s r_X0_twistsOfTenThousand_16 rfl (xm_T_gi rfl q1 rfl (Or.inl rfl)) ?_
  refine xm_E_s r_X0_twistsOfTenThousand_17 rfl rfl ?_
  refine xm_E_s r_X0_twistsOfTenThousand_18 rfl rfl ?_
  refine xm_E_s r_X0_twistsOfTenThousand_19 rfl rfl ?_
  refine xm_E_s r_X0_twistsOfTenThousand_20 rfl (xm_T_gi rfl q1 rfl (Or.inl rfl)) ?_
  refine xm_E_s r_X0_twistsOfTenThousand_21 rfl rfl ?_
  refine xm_E_s r_X0_twistsOfTenThousand_22 rfl rfl ?_
  refine xm_E_s r_X0_twistsOfTenThousand_23 rfl (xm_T_gi rfl q1 rfl (Or.inl rfl)) ?_
  refine xm_E_s r_X0_twistsOfTenThousand_24 rfl rfl ?_
  refine xm_E_s r_X0_twistsOfTenThousand_25 rfl rfl ?_
  refine xm_E_s r_X0_twistsOfTenThousand_26 rfl rfl ?_
  refine xm_E_s (ls1 := [some (.ref l0), some (.int l1), some (.int (((h3.1 l0 7) * ((100 : Int32) - (h3.1 l0 8))) + ((h3.1 l0 8) * ((100 : Int32) - (h3.1 l0 7)))))]) r_X0_twistsOfTenThousand_27 rfl rfl ?_
  refine xm_E_s r_X0_twistsOfTenThousand_28 rfl rfl ?_
  refine xm_E_s r_X0_twistsOfTenThousand_29 rfl rfl ?_
  refine xm_E_cv [.ref l0, .int l1] [] r_X0_twistsOfTenThousand_30 rfl rfl (Nat.le_of_ble_eq_true rfl) (xm_rc q1 (by decide)) rfl q7 ?_
  refine xm_E_s r_X0_twistsOfTenThousand_31 rfl rfl ?_
  refine xm_E_s r_X0_twistsOfTenThousand_32 rfl rfl ?_
  refine xm_E_cv [.ref l0, .int l1] [.int r4] r_X0_twistsOfTenThousand_33 rfl rfl (Nat.le_of_ble_eq_true rfl) (xm_rc q1 (by decide)) rfl q8 ?_
  refine xm_E_s r_X0_twistsOfTenThousand_34 rfl rfl ?_
  refine xm_E_f q9 ?_
  refine xm_E_s r_X0_twistsOfTenThousand_37 rfl rfl ?_
  refine xm_E_s r_X0_twistsOfTenThousand_38 rfl rfl ?_
  refine xm_E_s r_X0_twistsOfTenThousand_39 rfl rfl ?_
  exact xm_E_iret r_X0_twistsOfTenThousand_40 rfl rfl
theorem r_X2_hasBelowZero_0 : co_X2_hasBelowZero[0]? = some ((0, .iconst 0, 0, 0, 0, 0, 0, 0, []) : xm_I) := rfl
theorem r_X2_hasBelowZero_1 : co_X2_hasBelowZero[1]? = some ((1, .istore_n 1, 0, 0, 0, 0, 0, 0, []) : xm_I) := rfl
theorem r_X2_hasBelowZero_2 : co_X2_hasBelowZero[2]? = some ((2, .iload_n 1, 0, 0, 0, 0, 0, 0, []) : xm_I) := rfl
theorem r_X2_hasBelowZero_3 : co_X2_hasBelowZero[3]? = some ((3, .aload_n 0, 0, 0, 0, 0, 0, 0, []) : xm_I) := rfl
theorem r_X2_hasBelowZero_4 : co_X2_hasBelowZero[4]? = some ((4, .getfield 32, 468, 2, 3, 0, 0, 0, []) : xm_I) := rfl
theorem r_X2_hasBelowZero_5 : co_X2_hasBelowZero[5]? = some ((7, .if_icmp .ge 21, 0, 0, 16, 0, 0, 0, []) : xm_I) := rfl
theorem r_X2_hasBelowZero_6 : co_X2_hasBelowZero[6]? = some ((10, .aload_n 0, 0, 0, 0, 0, 0, 0, []) : xm_I) := rfl
theorem r_X2_hasBelowZero_7 : co_X2_hasBelowZero[7]? = some ((11, .iload_n 1, 0, 0, 0, 0, 0, 0, []) : xm_I) := rfl
theorem r_X2_hasBelowZero_8 : co_X2_hasBelowZero[8]? = some ((12, .invokevirtual 45, 839, 70, 2, 2, 0, 0, []) : xm_I) := rfl
theorem r_X2_hasBelowZero_9 : co_X2_hasBelowZero[9]? = some ((15, .lconst 0, 0, 0, 0, 0, 0, 0, []) : xm_I) := rfl
theorem r_X2_hasBelowZero_10 : co_X2_hasBelowZero[10]? = some ((16, .lcmp, 0, 0, 0, 0, 0, 0, []) : xm_I) := rfl
theorem r_X2_hasBelowZero_11 : co_X2_hasBelowZero[11]? = some ((17, .ifCond .ge 5, 0, 0, 14, 0, 0, 0, []) : xm_I) := rfl
theorem r_X2_hasBelowZero_12 : co_X2_hasBelowZero[12]? = some ((20, .iconst 1, 0, 0, 0, 0, 1, 0, []) : xm_I) := rfl
theorem r_X2_hasBelowZero_13 : co_X2_hasBelowZero[13]? = some ((21, .ireturn, 0, 0, 0, 3, 0, 0, []) : xm_I) := rfl
theorem r_X2_hasBelowZero_14 : co_X2_hasBelowZero[14]? = some ((22, .iinc 1 1, 0, 0, 0, 0, 1, 0, []) : xm_I) := rfl
theorem r_X2_hasBelowZero_15 : co_X2_hasBelowZero[15]? = some ((25, .goto (-23), 0, 0, 2, 0, 0, 0, []) : xm_I) := rfl
theorem r_X2_hasBelowZero_16 : co_X2_hasBelowZero[16]? = some ((28, .iconst 0, 0, 0, 0, 0, 0, 0, []) : xm_I) := rfl
theorem r_X2_hasBelowZero_17 : co_X2_hasBelowZero[17]? = some ((29, .ireturn, 0, 0, 0, 3, 0, 0, []) : xm_I) := rfl
theorem p_X2_hasBelowZero_0_0 {X : xm_X} {P : List xm_M} {d : Nat} {h : xm_H} {l0 : Nat} {ro : Option Value} {ho : xm_H}  (K : xm_E X P d co_X2_hasBelowZero 2 [some (.ref l0), some (.int (0 : Int32))] [] h ro ho) : xm_E X P d co_X2_hasBelowZero 0 [some (.ref l0), none] [] h ro ho := by
  refine xm_E_s r_X2_hasBelowZero_0 rfl rfl ?_
  refine xm_E_s (ls1 := [some (.ref l0), some (.int (0 : Int32))]) r_X2_hasBelowZero_1 rfl rfl ?_
  exact K
theorem p_X2_hasBelowZero_2_0 {X : xm_X} {P : List xm_M} {d : Nat} {h : xm_H} {l0 : Nat} {l1 : Int32} (q0 : X.1[l0]? = some (.inr 2)) (q1 : h.1 l0 3 ≤ l1) : xm_E X P d co_X2_hasBelowZero 2 [some (.ref l0), some (.int l1)] [] h (some (.int (0 : Int32))) h := by
  refine xm_E_s r_X2_hasBelowZero_2 rfl rfl ?_
  refine xm_E_s r_X2_hasBelowZero_3 rfl rfl ?_
  refine xm_E_s r_X2_hasBelowZero_4 rfl (xm_T_gi rfl q0 rfl (Or.inl rfl)) ?_
  refine xm_E_s r_X2_hasBelowZero_5 rfl rfl ?_
  refine xm_E_t q1 ?_
  refine xm_E_s r_X2_hasBelowZero_16 rfl rfl ?_
  exact xm_E_iret r_X2_hasBelowZero_17 rfl rfl
theorem p_X2_hasBelowZero_2_1 {X : xm_X} {P : List xm_M} {d : Nat} {h : xm_H} {l0 : Nat} {l1 : Int32} {h0 : xm_H} {r0 : Int64} {ro : Option Value} {ho : xm_H} (q0 : X.1[l0]? = some (.inr 2)) (q1 : ¬ (h.1 l0 3 ≤ l1)) (q2 : xm_V X P d 70 [.ref l0, .int l1] h (some (.long r0)) h0) (q3 : (0 : Int32) ≤ lg_cmp r0 (0 : Int64)) (K : xm_E X P d co_X2_hasBelowZero 2 [some (.ref l0), some (.int (l1 + (1 : Int32)))] [] h0 ro ho) : xm_E X P d co_X2_hasBelowZero 2 [some (.ref l0), some (.int l1)] [] h ro ho := by
  refine xm_E_s r_X2_hasBelowZero_2 rfl rfl ?_
  refine xm_E_s r_X2_hasBelowZero_3 rfl rfl ?_
  refine xm_E_s r_X2_hasBelowZero_4 rfl (xm_T_gi rfl q0 rfl (Or.inl rfl)) ?_
  refine xm_E_s r_X2_hasBelowZero_5 rfl rfl ?_
  refine xm_E_f q1 ?_
  refine xm_E_s r_X2_hasBelowZero_6 rfl rfl ?_
  refine xm_E_s r_X2_hasBelowZero_7 rfl rfl ?_
  refine xm_E_cv [.ref l0, .int l1] [] r_X2_hasBelowZero_8 rfl rfl (Nat.le_of_ble_eq_true rfl) (xm_rc q0 (by decide)) rfl q2 ?_
  refine xm_E_s r_X2_hasBelowZero_9 rfl rfl ?_
  refine xm_E_s r_X2_hasBelowZero_10 rfl rfl ?_
  refine xm_E_s r_X2_hasBelowZero_11 rfl rfl ?_
  refine xm_E_t q3 ?_
  refine xm_E_s (ls1 := [some (.ref l0), some (.int (l1 + (1 : Int32)))]) r_X2_hasBelowZero_14 rfl rfl ?_
  refine xm_E_s r_X2_hasBelowZero_15 rfl rfl ?_
  exact K
theorem p_X2_hasBelowZero_2_2 {X : xm_X} {P : List xm_M} {d : Nat} {h : xm_H} {l0 : Nat} {l1 : Int32} {h0 : xm_H} {r0 : Int64} (q0 : X.1[l0]? = some (.inr 2)) (q1 : ¬ (h.1 l0 3 ≤ l1)) (q2 : xm_V X P d 70 [.ref l0, .int l1] h (some (.long r0)) h0) (q3 : ¬ ((0 : Int32) ≤ lg_cmp r0 (0 : Int64))) : xm_E X P d co_X2_hasBelowZero 2 [some (.ref l0), some (.int l1)] [] h (some (.int (1 : Int32))) h0 := by
  refine xm_E_s r_X2_hasBelowZero_2 rfl rfl ?_
  refine xm_E_s r_X2_hasBelowZero_3 rfl rfl ?_
  refine xm_E_s r_X2_hasBelowZero_4 rfl (xm_T_gi rfl q0 rfl (Or.inl rfl)) ?_
  refine xm_E_s r_X2_hasBelowZero_5 rfl rfl ?_
  refine xm_E_f q1 ?_
  refine xm_E_s r_X2_hasBelowZero_6 rfl rfl ?_
  refine xm_E_s r_X2_hasBelowZero_7 rfl rfl ?_
  refine xm_E_cv [.ref l0, .int l1] [] r_X2_hasBelowZero_8 rfl rfl (Nat.le_of_ble_eq_true rfl) (xm_rc q0 (by decide)) rfl q2 ?_
  refine xm_E_s r_X2_hasBelowZero_9 rfl rfl ?_
  refine xm_E_s r_X2_hasBelowZero_10 rfl rfl ?_
  refine xm_E_s r_X2_hasBelowZero_11 rfl rfl ?_
  refine xm_E_f q3 ?_
  refine xm_E_s r_X2_hasBelowZero_12 rfl rfl ?_
  exact xm_E_iret r_X2_hasBelowZero_13 rfl rfl
theorem r_X1_highest_0 : co_X1_highest[0]? = some ((0, .iload_n 2, 0, 0, 0, 0, 0, 0, []) : xm_I) := rfl
theorem r_X1_highest_1 : co_X1_highest[1]? = some ((1, .sipush 999, 0, 0, 0, 0, 999, 0, []) : xm_I) := rfl
theorem r_X1_highest_2 : co_X1_highest[2]? = some ((4, .invokestatic 19, 1189, 0, 0, 3, 0, 0, []) : xm_I) := rfl
theorem r_X1_highest_3 : co_X1_highest[3]? = some ((7, .istore_n 3, 0, 0, 0, 0, 0, 0, []) : xm_I) := rfl
theorem r_X1_highest_4 : co_X1_highest[4]? = some ((8, .iconst 0, 0, 0, 0, 0, 0, 0, []) : xm_I) := rfl
theorem r_X1_highest_5 : co_X1_highest[5]? = some ((9, .istore 4, 0, 0, 0, 0, 0, 0, []) : xm_I) := rfl
theorem r_X1_highest_6 : co_X1_highest[6]? = some ((11, .iload 4, 0, 0, 0, 0, 0, 0, []) : xm_I) := rfl
theorem r_X1_highest_7 : co_X1_highest[7]? = some ((13, .iload_n 3, 0, 0, 0, 0, 0, 0, []) : xm_I) := rfl
theorem r_X1_highest_8 : co_X1_highest[8]? = some ((14, .if_icmp .gt 26, 0, 0, 20, 0, 0, 0, []) : xm_I) := rfl
theorem r_X1_highest_9 : co_X1_highest[9]? = some ((17, .aload_n 0, 0, 0, 0, 0, 0, 0, []) : xm_I) := rfl
theorem r_X1_highest_10 : co_X1_highest[10]? = some ((18, .getfield 9, 449, 1, 0, 2, 0, 0, []) : xm_I) := rfl
theorem r_X1_highest_11 : co_X1_highest[11]? = some ((21, .iload 4, 0, 0, 0, 0, 0, 0, []) : xm_I) := rfl
theorem r_X1_highest_12 : co_X1_highest[12]? = some ((23, .iload 4, 0, 0, 0, 0, 0, 0, []) : xm_I) := rfl
theorem r_X1_highest_13 : co_X1_highest[13]? = some ((25, .ifCond .ne 7, 0, 0, 16, 0, 0, 0, []) : xm_I) := rfl
theorem r_X1_highest_14 : co_X1_highest[14]? = some ((28, .iconst 1, 0, 0, 0, 0, 1, 0, []) : xm_I) := rfl
theorem r_X1_highest_15 : co_X1_highest[15]? = some ((29, .goto 4, 0, 0, 17, 0, 0, 0, []) : xm_I) := rfl
theorem r_X1_highest_16 : co_X1_highest[16]? = some ((32, .iconst 0, 0, 0, 0, 0, 0, 0, []) : xm_I) := rfl
theorem r_X1_highest_17 : co_X1_highest[17]? = some ((33, .bastore, 0, 0, 0, 0, 0, 0, []) : xm_I) := rfl
theorem r_X1_highest_18 : co_X1_highest[18]? = some ((34, .iinc 4 1, 0, 0, 0, 0, 1, 0, []) : xm_I) := rfl
theorem r_X1_highest_19 : co_X1_highest[19]? = some ((37, .goto (-26), 0, 0, 6, 0, 0, 0, []) : xm_I) := rfl
theorem r_X1_highest_20 : co_X1_highest[20]? = some ((40, .iconst 0, 0, 0, 0, 0, 0, 0, []) : xm_I) := rfl
theorem r_X1_highest_21 : co_X1_highest[21]? = some ((41, .istore 4, 0, 0, 0, 0, 0, 0, []) : xm_I) := rfl
theorem r_X1_highest_22 : co_X1_highest[22]? = some ((43, .iload 4, 0, 0, 0, 0, 0, 0, []) : xm_I) := rfl
theorem r_X1_highest_23 : co_X1_highest[23]? = some ((45, .aload_n 1, 0, 0, 0, 0, 0, 0, []) : xm_I) := rfl
theorem r_X1_highest_24 : co_X1_highest[24]? = some ((46, .getfield 25, 469, 2, 3, 0, 0, 0, []) : xm_I) := rfl
theorem r_X1_highest_25 : co_X1_highest[25]? = some ((49, .if_icmp .ge 33, 0, 0, 42, 0, 0, 0, []) : xm_I) := rfl
theorem r_X1_highest_26 : co_X1_highest[26]? = some ((52, .aload_n 1, 0, 0, 0, 0, 0, 0, []) : xm_I) := rfl
theorem r_X1_highest_27 : co_X1_highest[27]? = some ((53, .iload 4, 0, 0, 0, 0, 0, 0, []) : xm_I) := rfl
theorem r_X1_highest_28 : co_X1_highest[28]? = some ((55, .invokevirtual 31, 1190, 70, 2, 2, 0, 0, []) : xm_I) := rfl
theorem r_X1_highest_29 : co_X1_highest[29]? = some ((58, .iload_n 3, 0, 0, 0, 0, 0, 0, []) : xm_I) := rfl
theorem r_X1_highest_30 : co_X1_highest[30]? = some ((59, .i2l, 0, 0, 0, 0, 0, 0, []) : xm_I) := rfl
theorem r_X1_highest_31 : co_X1_highest[31]? = some ((60, .lcmp, 0, 0, 0, 0, 0, 0, []) : xm_I) := rfl
theorem r_X1_highest_32 : co_X1_highest[32]? = some ((61, .ifCond .gt 15, 0, 0, 40, 0, 0, 0, []) : xm_I) := rfl
theorem r_X1_highest_33 : co_X1_highest[33]? = some ((64, .aload_n 0, 0, 0, 0, 0, 0, 0, []) : xm_I) := rfl
theorem r_X1_highest_34 : co_X1_highest[34]? = some ((65, .aload_n 1, 0, 0, 0, 0, 0, 0, []) : xm_I) := rfl
theorem r_X1_highest_35 : co_X1_highest[35]? = some ((66, .iload 4, 0, 0, 0, 0, 0, 0, []) : xm_I) := rfl
theorem r_X1_highest_36 : co_X1_highest[36]? = some ((68, .invokevirtual 31, 1190, 70, 2, 2, 0, 0, []) : xm_I) := rfl
theorem r_X1_highest_37 : co_X1_highest[37]? = some ((71, .l2i, 0, 0, 0, 0, 0, 0, []) : xm_I) := rfl
theorem r_X1_highest_38 : co_X1_highest[38]? = some ((72, .iload_n 3, 0, 0, 0, 0, 0, 0, []) : xm_I) := rfl
theorem r_X1_highest_39 : co_X1_highest[39]? = some ((73, .invokevirtual 35, 1191, 149, 3, 1, 0, 0, []) : xm_I) := rfl
theorem r_X1_highest_40 : co_X1_highest[40]? = some ((76, .iinc 4 1, 0, 0, 0, 0, 1, 0, []) : xm_I) := rfl
theorem r_X1_highest_41 : co_X1_highest[41]? = some ((79, .goto (-36), 0, 0, 22, 0, 0, 0, []) : xm_I) := rfl
theorem r_X1_highest_42 : co_X1_highest[42]? = some ((82, .iconst 0, 0, 0, 0, 0, 0, 0, []) : xm_I) := rfl
theorem r_X1_highest_43 : co_X1_highest[43]? = some ((83, .istore 4, 0, 0, 0, 0, 0, 0, []) : xm_I) := rfl
theorem r_X1_highest_44 : co_X1_highest[44]? = some ((85, .iconst 0, 0, 0, 0, 0, 0, 0, []) : xm_I) := rfl
theorem r_X1_highest_45 : co_X1_highest[45]? = some ((86, .istore 5, 0, 0, 0, 0, 0, 0, []) : xm_I) := rfl
theorem r_X1_highest_46 : co_X1_highest[46]? = some ((88, .iload 5, 0, 0, 0, 0, 0, 0, []) : xm_I) := rfl
theorem r_X1_highest_47 : co_X1_highest[47]? = some ((90, .iload_n 3, 0, 0, 0, 0, 0, 0, []) : xm_I) := rfl
theorem r_X1_highest_48 : co_X1_highest[48]? = some ((91, .if_icmp .gt 28, 0, 0, 60, 0, 0, 0, []) : xm_I) := rfl
theorem r_X1_highest_49 : co_X1_highest[49]? = some ((94, .aload_n 0, 0, 0, 0, 0, 0, 0, []) : xm_I) := rfl
theorem r_X1_highest_50 : co_X1_highest[50]? = some ((95, .getfield 9, 449, 1, 0, 2, 0, 0, []) : xm_I) := rfl
theorem r_X1_highest_51 : co_X1_highest[51]? = some ((98, .iload 5, 0, 0, 0, 0, 0, 0, []) : xm_I) := rfl
theorem r_X1_highest_52 : co_X1_highest[52]? = some ((100, .baload, 0, 0, 0, 0, 0, 0, []) : xm_I) := rfl
theorem r_X1_highest_53 : co_X1_highest[53]? = some ((101, .ifCond .eq 8, 0, 0, 56, 0, 0, 0, []) : xm_I) := rfl
theorem r_X1_highest_54 : co_X1_highest[54]? = some ((104, .iload 5, 0, 0, 0, 0, 0, 0, []) : xm_I) := rfl
theorem r_X1_highest_55 : co_X1_highest[55]? = some ((106, .goto 5, 0, 0, 57, 0, 0, 0, []) : xm_I) := rfl
theorem r_X1_highest_56 : co_X1_highest[56]? = some ((109, .iload 4, 0, 0, 0, 0, 0, 0, []) : xm_I) := rfl
theorem r_X1_highest_57 : co_X1_highest[57]? = some ((111, .istore 4, 0, 0, 0, 0, 0, 0, []) : xm_I) := rfl
theorem r_X1_highest_58 : co_X1_highest[58]? = some ((113, .iinc 5 1, 0, 0, 0, 0, 1, 0, []) : xm_I) := rfl
theorem r_X1_highest_59 : co_X1_highest[59]? = some ((116, .goto (-28), 0, 0, 46, 0, 0, 0, []) : xm_I) := rfl
theorem r_X1_highest_60 : co_X1_highest[60]? = some ((119, .iload 4, 0, 0, 0, 0, 0, 0, []) : xm_I) := rfl
theorem r_X1_highest_61 : co_X1_highest[61]? = some ((121, .ireturn, 0, 0, 0, 0, 0, 0, []) : xm_I) := rfl
theorem p_X1_highest_0_0 {X : xm_X} {P : List xm_M} {d : Nat} {h : xm_H} {l0 : Nat} {l1 : Nat} {l2 : Int32} {ro : Option Value} {ho : xm_H}  (K : xm_E X P d co_X1_highest 6 [some (.ref l0), some (.ref l1), some (.int l2), some (.int (if (999 : Int32) < l2 then (999 : Int32) else l2)), some (.int (0 : Int32)), none] [] h ro ho) : xm_E X P d co_X1_highest 0 [some (.ref l0), some (.ref l1), some (.int l2), none, none, none] [] h ro ho := by
  refine xm_E_s r_X1_highest_0 rfl rfl ?_
  refine xm_E_s r_X1_highest_1 rfl rfl ?_
  refine xm_E_s r_X1_highest_2 rfl rfl ?_
  refine xm_E_s (ls1 := [some (.ref l0), some (.ref l1), some (.int l2), some (.int (if (999 : Int32) < l2 then (999 : Int32) else l2)), none, none]) r_X1_highest_3 rfl rfl ?_
  refine xm_E_s r_X1_highest_4 rfl rfl ?_
  refine xm_E_s (ls1 := [some (.ref l0), some (.ref l1), some (.int l2), some (.int (if (999 : Int32) < l2 then (999 : Int32) else l2)), some (.int (0 : Int32)), none]) r_X1_highest_5 rfl rfl ?_
  exact K
theorem p_X1_highest_6_0 {X : xm_X} {P : List xm_M} {d : Nat} {h : xm_H} {l0 : Nat} {l1 : Nat} {l2 : Int32} {l3 : Int32} {l4 : Int32} {ro : Option Value} {ho : xm_H} (q0 : l3 < l4) (K : xm_E X P d co_X1_highest 22 [some (.ref l0), some (.ref l1), some (.int l2), some (.int l3), some (.int (0 : Int32)), none] [] h ro ho) : xm_E X P d co_X1_highest 6 [some (.ref l0), some (.ref l1), some (.int l2), some (.int l3), some (.int l4), none] [] h ro ho := by
  refine xm_E_s r_X1_highest_6 rfl rfl ?_
  refine xm_E_s r_X1_highest_7 rfl rfl ?_
  refine xm_E_s r_X1_highest_8 rfl rfl ?_
  refine xm_E_t q0 ?_
  refine xm_E_s r_X1_highest_20 rfl rfl ?_
  refine xm_E_s (ls1 := [some (.ref l0), some (.ref l1), some (.int l2), some (.int l3), some (.int (0 : Int32)), none]) r_X1_highest_21 rfl rfl ?_
  exact K
theorem p_X1_highest_6_1 {X : xm_X} {P : List xm_M} {d : Nat} {h : xm_H} {l0 : Nat} {l1 : Nat} {l2 : Int32} {l3 : Int32} {l4 : Int32} {v0 : Nat} {n1 : Nat} {ro : Option Value} {ho : xm_H} (q0 : ¬ (l3 < l4)) (q1 : X.1[l0]? = some (.inr 1)) (q2 : h.2.2 l0 0 = some v0) (q3 : l4 = (0 : Int32)) (q4 : X.1[v0]? = some (.inl (2, n1))) (q5 : ¬ (l4 < 0 ∨ n1 ≤ l4.toNatClampNeg)) (K : xm_E X P d co_X1_highest 6 [some (.ref l0), some (.ref l1), some (.int l2), some (.int l3), some (.int (l4 + (1 : Int32))), none] [] (xm_si h v0 l4.toNatClampNeg (vp_nar .boolean (1 : Int32))) ro ho) : xm_E X P d co_X1_highest 6 [some (.ref l0), some (.ref l1), some (.int l2), some (.int l3), some (.int l4), none] [] h ro ho := by
  refine xm_E_s r_X1_highest_6 rfl rfl ?_
  refine xm_E_s r_X1_highest_7 rfl rfl ?_
  refine xm_E_s r_X1_highest_8 rfl rfl ?_
  refine xm_E_f q0 ?_
  refine xm_E_s r_X1_highest_9 rfl rfl ?_
  refine xm_E_s r_X1_highest_10 rfl (xm_T_gr rfl q1 rfl rfl q2) ?_
  refine xm_E_s r_X1_highest_11 rfl rfl ?_
  refine xm_E_s r_X1_highest_12 rfl rfl ?_
  refine xm_E_s r_X1_highest_13 rfl rfl ?_
  refine xm_E_t q3 ?_
  refine xm_E_s r_X1_highest_14 rfl rfl ?_
  refine xm_E_s r_X1_highest_15 rfl rfl ?_
  refine xm_E_s r_X1_highest_17 rfl (xm_T_asz rfl q4 q5) ?_
  refine xm_E_s (ls1 := [some (.ref l0), some (.ref l1), some (.int l2), some (.int l3), some (.int (l4 + (1 : Int32))), none]) r_X1_highest_18 rfl rfl ?_
  refine xm_E_s r_X1_highest_19 rfl rfl ?_
  exact K
theorem p_X1_highest_6_2 {X : xm_X} {P : List xm_M} {d : Nat} {h : xm_H} {l0 : Nat} {l1 : Nat} {l2 : Int32} {l3 : Int32} {l4 : Int32} {v0 : Nat} {n1 : Nat} {ro : Option Value} {ho : xm_H} (q0 : ¬ (l3 < l4)) (q1 : X.1[l0]? = some (.inr 1)) (q2 : h.2.2 l0 0 = some v0) (q3 : ¬ (l4 = (0 : Int32))) (q4 : X.1[v0]? = some (.inl (2, n1))) (q5 : ¬ (l4 < 0 ∨ n1 ≤ l4.toNatClampNeg)) (K : xm_E X P d co_X1_highest 6 [some (.ref l0), some (.ref l1), some (.int l2), some (.int l3), some (.int (l4 + (1 : Int32))), none] [] (xm_si h v0 l4.toNatClampNeg (vp_nar .boolean (0 : Int32))) ro ho) : xm_E X P d co_X1_highest 6 [some (.ref l0), some (.ref l1), some (.int l2), some (.int l3), some (.int l4), none] [] h ro ho := by
  refine xm_E_s r_X1_highest_6 rfl rfl ?_
  refine xm_E_s r_X1_highest_7 rfl rfl ?_
  refine xm_E_s r_X1_highest_8 rfl rfl ?_
  refine xm_E_f q0 ?_
  refine xm_E_s r_X1_highest_9 rfl rfl ?_
  refine xm_E_s r_X1_highest_10 rfl (xm_T_gr rfl q1 rfl rfl q2) ?_
  refine xm_E_s r_X1_highest_11 rfl rfl ?_
  refine xm_E_s r_X1_highest_12 rfl rfl ?_
  refine xm_E_s r_X1_highest_13 rfl rfl ?_
  refine xm_E_f q3 ?_
  refine xm_E_s r_X1_highest_16 rfl rfl ?_
  refine xm_E_s r_X1_highest_17 rfl (xm_T_asz rfl q4 q5) ?_
  refine xm_E_s (ls1 := [some (.ref l0), some (.ref l1), some (.int l2), some (.int l3), some (.int (l4 + (1 : Int32))), none]) r_X1_highest_18 rfl rfl ?_
  refine xm_E_s r_X1_highest_19 rfl rfl ?_
  exact K
theorem p_X1_highest_22_0 {X : xm_X} {P : List xm_M} {d : Nat} {h : xm_H} {l0 : Nat} {l1 : Nat} {l2 : Int32} {l3 : Int32} {l4 : Int32} {ro : Option Value} {ho : xm_H} (q0 : X.1[l1]? = some (.inr 2)) (q1 : h.1 l1 3 ≤ l4) (K : xm_E X P d co_X1_highest 46 [some (.ref l0), some (.ref l1), some (.int l2), some (.int l3), some (.int (0 : Int32)), some (.int (0 : Int32))] [] h ro ho) : xm_E X P d co_X1_highest 22 [some (.ref l0), some (.ref l1), some (.int l2), some (.int l3), some (.int l4), none] [] h ro ho := by
  refine xm_E_s r_X1_highest_22 rfl rfl ?_
  refine xm_E_s r_X1_highest_23 rfl rfl ?_
  refine xm_E_s r_X1_highest_24 rfl (xm_T_gi rfl q0 rfl (Or.inl rfl)) ?_
  refine xm_E_s r_X1_highest_25 rfl rfl ?_
  refine xm_E_t q1 ?_
  refine xm_E_s r_X1_highest_42 rfl rfl ?_
  refine xm_E_s (ls1 := [some (.ref l0), some (.ref l1), some (.int l2), some (.int l3), some (.int (0 : Int32)), none]) r_X1_highest_43 rfl rfl ?_
  refine xm_E_s r_X1_highest_44 rfl rfl ?_
  refine xm_E_s (ls1 := [some (.ref l0), some (.ref l1), some (.int l2), some (.int l3), some (.int (0 : Int32)), some (.int (0 : Int32))]) r_X1_highest_45 rfl rfl ?_
  exact K
theorem p_X1_highest_22_1 {X : xm_X} {P : List xm_M} {d : Nat} {h : xm_H} {l0 : Nat} {l1 : Nat} {l2 : Int32} {l3 : Int32} {l4 : Int32} {h0 : xm_H} {r0 : Int64} {ro : Option Value} {ho : xm_H} (q0 : X.1[l1]? = some (.inr 2)) (q1 : ¬ (h.1 l1 3 ≤ l4)) (q2 : xm_V X P d 70 [.ref l1, .int l4] h (some (.long r0)) h0) (q3 : (0 : Int32) < lg_cmp r0 l3.toInt64) (K : xm_E X P d co_X1_highest 22 [some (.ref l0), some (.ref l1), some (.int l2), some (.int l3), some (.int (l4 + (1 : Int32))), none] [] h0 ro ho) : xm_E X P d co_X1_highest 22 [some (.ref l0), some (.ref l1), some (.int l2), some (.int l3), some (.int l4), none] [] h ro ho := by
  refine xm_E_s r_X1_highest_22 rfl rfl ?_
  refine xm_E_s r_X1_highest_23 rfl rfl ?_
  refine xm_E_s r_X1_highest_24 rfl (xm_T_gi rfl q0 rfl (Or.inl rfl)) ?_
  refine xm_E_s r_X1_highest_25 rfl rfl ?_
  refine xm_E_f q1 ?_
  refine xm_E_s r_X1_highest_26 rfl rfl ?_
  refine xm_E_s r_X1_highest_27 rfl rfl ?_
  refine xm_E_cv [.ref l1, .int l4] [] r_X1_highest_28 rfl rfl (Nat.le_of_ble_eq_true rfl) (xm_rc q0 (by decide)) rfl q2 ?_
  refine xm_E_s r_X1_highest_29 rfl rfl ?_
  refine xm_E_s r_X1_highest_30 rfl rfl ?_
  refine xm_E_s r_X1_highest_31 rfl rfl ?_
  refine xm_E_s r_X1_highest_32 rfl rfl ?_
  refine xm_E_t q3 ?_
  refine xm_E_s (ls1 := [some (.ref l0), some (.ref l1), some (.int l2), some (.int l3), some (.int (l4 + (1 : Int32))), none]) r_X1_highest_40 rfl rfl ?_
  refine xm_E_s r_X1_highest_41 rfl rfl ?_
  exact K
theorem p_X1_highest_22_2 {X : xm_X} {P : List xm_M} {d : Nat} {h : xm_H} {l0 : Nat} {l1 : Nat} {l2 : Int32} {l3 : Int32} {l4 : Int32} {h0 : xm_H} {r0 : Int64} {h1 : xm_H} {r1 : Int64} {h2 : xm_H} {ro : Option Value} {ho : xm_H} (q0 : X.1[l1]? = some (.inr 2)) (q1 : ¬ (h.1 l1 3 ≤ l4)) (q2 : xm_V X P d 70 [.ref l1, .int l4] h (some (.long r0)) h0) (q3 : ¬ ((0 : Int32) < lg_cmp r0 l3.toInt64)) (q4 : xm_V X P d 70 [.ref l1, .int l4] h0 (some (.long r1)) h1) (q5 : xm_V X P d 149 [.ref l0, .int r1.toInt32, .int l3] h1 none h2) (q6 : X.1[l0]? = some (.inr 1)) (K : xm_E X P d co_X1_highest 22 [some (.ref l0), some (.ref l1), some (.int l2), some (.int l3), some (.int (l4 + (1 : Int32))), none] [] h2 ro ho) : xm_E X P d co_X1_highest 22 [some (.ref l0), some (.ref l1), some (.int l2), some (.int l3), some (.int l4), none] [] h ro ho := by
  refine xm_E_s r_X1_highest_22 rfl rfl ?_
  refine xm_E_s r_X1_highest_23 rfl rfl ?_
  refine xm_E_s r_X1_highest_24 rfl (xm_T_gi rfl q0 rfl (Or.inl rfl)) ?_
  refine xm_E_s r_X1_highest_25 rfl rfl ?_
  refine xm_E_f q1 ?_
  refine xm_E_s r_X1_highest_26 rfl rfl ?_
  refine xm_E_s r_X1_highest_27 rfl rfl ?_
  refine xm_E_cv [.ref l1, .int l4] [] r_X1_highest_28 rfl rfl (Nat.le_of_ble_eq_true rfl) (xm_rc q0 (by decide)) rfl q2 ?_
  refine xm_E_s r_X1_highest_29 rfl rfl ?_
  refine xm_E_s r_X1_highest_30 rfl rfl ?_
  refine xm_E_s r_X1_highest_31 rfl rfl ?_
  refine xm_E_s r_X1_highest_32 rfl rfl ?_
  refine xm_E_f q3 ?_
  refine xm_E_s r_X1_highest_33 rfl rfl ?_
  refine xm_E_s r_X1_highest_34 rfl rfl ?_
  refine xm_E_s r_X1_highest_35 rfl rfl ?_
  refine xm_E_cv [.ref l1, .int l4] [.ref l0] r_X1_highest_36 rfl rfl (Nat.le_of_ble_eq_true rfl) (xm_rc q0 (by decide)) rfl q4 ?_
  refine xm_E_s r_X1_highest_37 rfl rfl ?_
  refine xm_E_s r_X1_highest_38 rfl rfl ?_
  refine xm_E_cv [.ref l0, .int r1.toInt32, .int l3] [] r_X1_highest_39 rfl rfl (Nat.le_of_ble_eq_true rfl) (xm_rc q6 (by decide)) rfl q5 ?_
  refine xm_E_s (ls1 := [some (.ref l0), some (.ref l1), some (.int l2), some (.int l3), some (.int (l4 + (1 : Int32))), none]) r_X1_highest_40 rfl rfl ?_
  refine xm_E_s r_X1_highest_41 rfl rfl ?_
  exact K
theorem p_X1_highest_46_0 {X : xm_X} {P : List xm_M} {d : Nat} {h : xm_H} {l0 : Nat} {l1 : Nat} {l2 : Int32} {l3 : Int32} {l4 : Int32} {l5 : Int32} (q0 : l3 < l5) : xm_E X P d co_X1_highest 46 [some (.ref l0), some (.ref l1), some (.int l2), some (.int l3), some (.int l4), some (.int l5)] [] h (some (.int l4)) h := by
  refine xm_E_s r_X1_highest_46 rfl rfl ?_
  refine xm_E_s r_X1_highest_47 rfl rfl ?_
  refine xm_E_s r_X1_highest_48 rfl rfl ?_
  refine xm_E_t q0 ?_
  refine xm_E_s r_X1_highest_60 rfl rfl ?_
  exact xm_E_iret r_X1_highest_61 rfl rfl
theorem p_X1_highest_46_1 {X : xm_X} {P : List xm_M} {d : Nat} {h : xm_H} {l0 : Nat} {l1 : Nat} {l2 : Int32} {l3 : Int32} {l4 : Int32} {l5 : Int32} {v0 : Nat} {n1 : Nat} {b1 : Nat} {ro : Option Value} {ho : xm_H} (q0 : ¬ (l3 < l5)) (q1 : X.1[l0]? = some (.inr 1)) (q2 : h.2.2 l0 0 = some v0) (q3 : X.1[v0]? = some (.inl (b1, n1))) (q4 : ¬ (l5 < 0 ∨ n1 ≤ l5.toNatClampNeg)) (q5 : 1 ≤ b1 ∧ b1 ≤ 2) (q6 : h.1 v0 l5.toNatClampNeg = (0 : Int32)) (K : xm_E X P d co_X1_highest 46 [some (.ref l0), some (.ref l1), some (.int l2), some (.int l3), some (.int l4), some (.int (l5 + (1 : Int32)))] [] h ro ho) : xm_E X P d co_X1_highest 46 [some (.ref l0), some (.ref l1), some (.int l2), some (.int l3), some (.int l4), some (.int l5)] [] h ro ho := by
  refine xm_E_s r_X1_highest_46 rfl rfl ?_
  refine xm_E_s r_X1_highest_47 rfl rfl ?_
  refine xm_E_s r_X1_highest_48 rfl rfl ?_
  refine xm_E_f q0 ?_
  refine xm_E_s r_X1_highest_49 rfl rfl ?_
  refine xm_E_s r_X1_highest_50 rfl (xm_T_gr rfl q1 rfl rfl q2) ?_
  refine xm_E_s r_X1_highest_51 rfl rfl ?_
  refine xm_E_s r_X1_highest_52 rfl (xm_T_bald rfl q3 q5 q4) ?_
  refine xm_E_s r_X1_highest_53 rfl rfl ?_
  refine xm_E_t q6 ?_
  refine xm_E_s r_X1_highest_56 rfl rfl ?_
  refine xm_E_s (ls1 := [some (.ref l0), some (.ref l1), some (.int l2), some (.int l3), some (.int l4), some (.int l5)]) r_X1_highest_57 rfl rfl ?_
  refine xm_E_s (ls1 := [some (.ref l0), some (.ref l1), some (.int l2), some (.int l3), some (.int l4), some (.int (l5 + (1 : Int32)))]) r_X1_highest_58 rfl rfl ?_
  refine xm_E_s r_X1_highest_59 rfl rfl ?_
  exact K
theorem p_X1_highest_46_2 {X : xm_X} {P : List xm_M} {d : Nat} {h : xm_H} {l0 : Nat} {l1 : Nat} {l2 : Int32} {l3 : Int32} {l4 : Int32} {l5 : Int32} {v0 : Nat} {n1 : Nat} {b1 : Nat} {ro : Option Value} {ho : xm_H} (q0 : ¬ (l3 < l5)) (q1 : X.1[l0]? = some (.inr 1)) (q2 : h.2.2 l0 0 = some v0) (q3 : X.1[v0]? = some (.inl (b1, n1))) (q4 : ¬ (l5 < 0 ∨ n1 ≤ l5.toNatClampNeg)) (q5 : 1 ≤ b1 ∧ b1 ≤ 2) (q6 : ¬ (h.1 v0 l5.toNatClampNeg = (0 : Int32))) (K : xm_E X P d co_X1_highest 46 [some (.ref l0), some (.ref l1), some (.int l2), some (.int l3), some (.int l5), some (.int (l5 + (1 : Int32)))] [] h ro ho) : xm_E X P d co_X1_highest 46 [some (.ref l0), some (.ref l1), some (.int l2), some (.int l3), some (.int l4), some (.int l5)] [] h ro ho := by
  refine xm_E_s r_X1_highest_46 rfl rfl ?_
  refine xm_E_s r_X1_highest_47 rfl rfl ?_
  refine xm_E_s r_X1_highest_48 rfl rfl ?_
  refine xm_E_f q0 ?_
  refine xm_E_s r_X1_highest_49 rfl rfl ?_
  refine xm_E_s r_X1_highest_50 rfl (xm_T_gr rfl q1 rfl rfl q2) ?_
  refine xm_E_s r_X1_highest_51 rfl rfl ?_
  refine xm_E_s r_X1_highest_52 rfl (xm_T_bald rfl q3 q5 q4) ?_
  refine xm_E_s r_X1_highest_53 rfl rfl ?_
  refine xm_E_f q6 ?_
  refine xm_E_s r_X1_highest_54 rfl rfl ?_
  refine xm_E_s r_X1_highest_55 rfl rfl ?_
  refine xm_E_s (ls1 := [some (.ref l0), some (.ref l1), some (.int l2), some (.int l3), some (.int l5), some (.int l5)]) r_X1_highest_57 rfl rfl ?_
  refine xm_E_s (ls1 := [some (.ref l0), some (.ref l1), some (.int l2), some (.int l3), some (.int l5), some (.int (l5 + (1 : Int32)))]) r_X1_highest_58 rfl rfl ?_
  refine xm_E_s r_X1_highest_59 rfl rfl ?_
  exact K
theorem r_X1_lay_0 : co_X1_lay[0]? = some ((0, .iload_n 2, 0, 0, 0, 0, 0, 0, []) : xm_I) := rfl
theorem r_X1_lay_1 : co_X1_lay[1]? = some ((1, .istore_n 3, 0, 0, 0, 0, 0, 0, []) : xm_I) := rfl
theorem r_X1_lay_2 : co_X1_lay[2]? = some ((2, .iload_n 3, 0, 0, 0, 0, 0, 0, []) : xm_I) := rfl
theorem r_X1_lay_3 : co_X1_lay[3]? = some ((3, .iload_n 1, 0, 0, 0, 0, 0, 0, []) : xm_I) := rfl
theorem r_X1_lay_4 : co_X1_lay[4]? = some ((4, .if_icmp .lt 30, 0, 0, 22, 0, 0, 0, []) : xm_I) := rfl
theorem r_X1_lay_5 : co_X1_lay[5]? = some ((7, .iload_n 1, 0, 0, 0, 0, 0, 0, []) : xm_I) := rfl
theorem r_X1_lay_6 : co_X1_lay[6]? = some ((8, .ifCond .le 26, 0, 0, 22, 0, 0, 0, []) : xm_I) := rfl
theorem r_X1_lay_7 : co_X1_lay[7]? = some ((11, .aload_n 0, 0, 0, 0, 0, 0, 0, []) : xm_I) := rfl
theorem r_X1_lay_8 : co_X1_lay[8]? = some ((12, .getfield 9, 449, 1, 0, 2, 0, 0, []) : xm_I) := rfl
theorem r_X1_lay_9 : co_X1_lay[9]? = some ((15, .iload_n 3, 0, 0, 0, 0, 0, 0, []) : xm_I) := rfl
theorem r_X1_lay_10 : co_X1_lay[10]? = some ((16, .dup2, 0, 0, 0, 0, 0, 0, []) : xm_I) := rfl
theorem r_X1_lay_11 : co_X1_lay[11]? = some ((17, .baload, 0, 0, 0, 0, 0, 0, []) : xm_I) := rfl
theorem r_X1_lay_12 : co_X1_lay[12]? = some ((18, .aload_n 0, 0, 0, 0, 0, 0, 0, []) : xm_I) := rfl
theorem r_X1_lay_13 : co_X1_lay[13]? = some ((19, .getfield 9, 449, 1, 0, 2, 0, 0, []) : xm_I) := rfl
theorem r_X1_lay_14 : co_X1_lay[14]? = some ((22, .iload_n 3, 0, 0, 0, 0, 0, 0, []) : xm_I) := rfl
theorem r_X1_lay_15 : co_X1_lay[15]? = some ((23, .iload_n 1, 0, 0, 0, 0, 0, 0, []) : xm_I) := rfl
theorem r_X1_lay_16 : co_X1_lay[16]? = some ((24, .isub, 0, 0, 0, 0, 0, 0, []) : xm_I) := rfl
theorem r_X1_lay_17 : co_X1_lay[17]? = some ((25, .baload, 0, 0, 0, 0, 0, 0, []) : xm_I) := rfl
theorem r_X1_lay_18 : co_X1_lay[18]? = some ((26, .ior, 0, 0, 0, 0, 0, 0, []) : xm_I) := rfl
theorem r_X1_lay_19 : co_X1_lay[19]? = some ((27, .bastore, 0, 0, 0, 0, 0, 0, []) : xm_I) := rfl
theorem r_X1_lay_20 : co_X1_lay[20]? = some ((28, .iinc 3 (-1), 0, 0, 0, 0, (-1), 0, []) : xm_I) := rfl
theorem r_X1_lay_21 : co_X1_lay[21]? = some ((31, .goto (-29), 0, 0, 2, 0, 0, 0, []) : xm_I) := rfl
theorem r_X1_lay_22 : co_X1_lay[22]? = some ((34, .return_, 0, 0, 0, 0, 0, 0, []) : xm_I) := rfl
theorem p_X1_lay_0_0 {X : xm_X} {P : List xm_M} {d : Nat} {h : xm_H} {l0 : Nat} {l1 : Int32} {l2 : Int32} {ro : Option Value} {ho : xm_H}  (K : xm_E X P d co_X1_lay 2 [some (.ref l0), some (.int l1), some (.int l2), some (.int l2)] [] h ro ho) : xm_E X P d co_X1_lay 0 [some (.ref l0), some (.int l1), some (.int l2), none] [] h ro ho := by
  refine xm_E_s r_X1_lay_0 rfl rfl ?_
  refine xm_E_s (ls1 := [some (.ref l0), some (.int l1), some (.int l2), some (.int l2)]) r_X1_lay_1 rfl rfl ?_
  exact K
theorem p_X1_lay_2_0 {X : xm_X} {P : List xm_M} {d : Nat} {h : xm_H} {l0 : Nat} {l1 : Int32} {l2 : Int32} {l3 : Int32} (q0 : l3 < l1) : xm_E X P d co_X1_lay 2 [some (.ref l0), some (.int l1), some (.int l2), some (.int l3)] [] h none h := by
  refine xm_E_s r_X1_lay_2 rfl rfl ?_
  refine xm_E_s r_X1_lay_3 rfl rfl ?_
  refine xm_E_s r_X1_lay_4 rfl rfl ?_
  refine xm_E_t q0 ?_
  exact xm_E_ret r_X1_lay_22 rfl
theorem p_X1_lay_2_1 {X : xm_X} {P : List xm_M} {d : Nat} {h : xm_H} {l0 : Nat} {l1 : Int32} {l2 : Int32} {l3 : Int32} (q0 : ¬ (l3 < l1)) (q1 : l1 ≤ (0 : Int32)) : xm_E X P d co_X1_lay 2 [some (.ref l0), some (.int l1), some (.int l2), some (.int l3)] [] h none h := by
  refine xm_E_s r_X1_lay_2 rfl rfl ?_
  refine xm_E_s r_X1_lay_3 rfl rfl ?_
  refine xm_E_s r_X1_lay_4 rfl rfl ?_
  refine xm_E_f q0 ?_
  refine xm_E_s r_X1_lay_5 rfl rfl ?_
  refine xm_E_s r_X1_lay_6 rfl rfl ?_
  refine xm_E_t q1 ?_
  exact xm_E_ret r_X1_lay_22 rfl
theorem p_X1_lay_2_2 {X : xm_X} {P : List xm_M} {d : Nat} {h : xm_H} {l0 : Nat} {l1 : Int32} {l2 : Int32} {l3 : Int32} {v0 : Nat} {n1 : Nat} {b1 : Nat} {ro : Option Value} {ho : xm_H} (q0 : ¬ (l3 < l1)) (q1 : ¬ (l1 ≤ (0 : Int32))) (q2 : X.1[l0]? = some (.inr 1)) (q3 : h.2.2 l0 0 = some v0) (q4 : X.1[v0]? = some (.inl (b1, n1))) (q5 : ¬ (l3 < 0 ∨ n1 ≤ l3.toNatClampNeg)) (q6 : 1 ≤ b1 ∧ b1 ≤ 2) (q7 : ¬ (l3 - l1 < 0 ∨ n1 ≤ (l3 - l1).toNatClampNeg)) (q8 : X.1[v0]? = some (.inl (2, n1))) (K : xm_E X P d co_X1_lay 2 [some (.ref l0), some (.int l1), some (.int l2), some (.int (l3 + (-1 : Int32)))] [] (xm_si h v0 l3.toNatClampNeg (vp_nar .boolean ((h.1 v0 l3.toNatClampNeg) ||| (h.1 v0 ((l3 - l1).toNatClampNeg))))) ro ho) : xm_E X P d co_X1_lay 2 [some (.ref l0), some (.int l1), some (.int l2), some (.int l3)] [] h ro ho := by
  refine xm_E_s r_X1_lay_2 rfl rfl ?_
  refine xm_E_s r_X1_lay_3 rfl rfl ?_
  refine xm_E_s r_X1_lay_4 rfl rfl ?_
  refine xm_E_f q0 ?_
  refine xm_E_s r_X1_lay_5 rfl rfl ?_
  refine xm_E_s r_X1_lay_6 rfl rfl ?_
  refine xm_E_f q1 ?_
  refine xm_E_s r_X1_lay_7 rfl rfl ?_
  refine xm_E_s r_X1_lay_8 rfl (xm_T_gr rfl q2 rfl rfl q3) ?_
  refine xm_E_s r_X1_lay_9 rfl rfl ?_
  refine xm_E_s r_X1_lay_10 rfl rfl ?_
  refine xm_E_s r_X1_lay_11 rfl (xm_T_bald rfl q4 q6 q5) ?_
  refine xm_E_s r_X1_lay_12 rfl rfl ?_
  refine xm_E_s r_X1_lay_13 rfl (xm_T_gr rfl q2 rfl rfl q3) ?_
  refine xm_E_s r_X1_lay_14 rfl rfl ?_
  refine xm_E_s r_X1_lay_15 rfl rfl ?_
  refine xm_E_s r_X1_lay_16 rfl rfl ?_
  refine xm_E_s r_X1_lay_17 rfl (xm_T_bald rfl q4 q6 q7) ?_
  refine xm_E_s r_X1_lay_18 rfl rfl ?_
  refine xm_E_s r_X1_lay_19 rfl (xm_T_asz rfl q8 q5) ?_
  refine xm_E_s (ls1 := [some (.ref l0), some (.int l1), some (.int l2), some (.int (l3 + (-1 : Int32)))]) r_X1_lay_20 rfl rfl ?_
  refine xm_E_s r_X1_lay_21 rfl rfl ?_
  exact K
theorem r_X1_mostOf_0 : co_X1_mostOf[0]? = some ((0, .aload_n 0, 0, 0, 0, 0, 0, 0, []) : xm_I) := rfl
theorem r_X1_mostOf_1 : co_X1_mostOf[1]? = some ((1, .aload_n 1, 0, 0, 0, 0, 0, 0, []) : xm_I) := rfl
theorem r_X1_mostOf_2 : co_X1_mostOf[2]? = some ((2, .invokevirtual 39, 1199, 151, 2, 1, 0, 0, []) : xm_I) := rfl
theorem r_X1_mostOf_3 : co_X1_mostOf[3]? = some ((5, .iload_n 2, 0, 0, 0, 0, 0, 0, []) : xm_I) := rfl
theorem r_X1_mostOf_4 : co_X1_mostOf[4]? = some ((6, .i2l, 0, 0, 0, 0, 0, 0, []) : xm_I) := rfl
theorem r_X1_mostOf_5 : co_X1_mostOf[5]? = some ((7, .lstore_n 3, 0, 0, 0, 0, 0, 0, []) : xm_I) := rfl
theorem r_X1_mostOf_6 : co_X1_mostOf[6]? = some ((8, .iconst 0, 0, 0, 0, 0, 0, 0, []) : xm_I) := rfl
theorem r_X1_mostOf_7 : co_X1_mostOf[7]? = some ((9, .istore 5, 0, 0, 0, 0, 0, 0, []) : xm_I) := rfl
theorem r_X1_mostOf_8 : co_X1_mostOf[8]? = some ((11, .iconst 0, 0, 0, 0, 0, 0, 0, []) : xm_I) := rfl
theorem r_X1_mostOf_9 : co_X1_mostOf[9]? = some ((12, .istore 6, 0, 0, 0, 0, 0, 0, []) : xm_I) := rfl
theorem r_X1_mostOf_10 : co_X1_mostOf[10]? = some ((14, .iload 6, 0, 0, 0, 0, 0, 0, []) : xm_I) := rfl
theorem r_X1_mostOf_11 : co_X1_mostOf[11]? = some ((16, .aload_n 1, 0, 0, 0, 0, 0, 0, []) : xm_I) := rfl
theorem r_X1_mostOf_12 : co_X1_mostOf[12]? = some ((17, .getfield 25, 469, 2, 3, 0, 0, 0, []) : xm_I) := rfl
theorem r_X1_mostOf_13 : co_X1_mostOf[13]? = some ((20, .if_icmp .ge 41, 0, 0, 34, 0, 0, 0, []) : xm_I) := rfl
theorem r_X1_mostOf_14 : co_X1_mostOf[14]? = some ((23, .iload 6, 0, 0, 0, 0, 0, 0, []) : xm_I) := rfl
theorem r_X1_mostOf_15 : co_X1_mostOf[15]? = some ((25, .bipush 60, 0, 0, 0, 0, 60, 0, []) : xm_I) := rfl
theorem r_X1_mostOf_16 : co_X1_mostOf[16]? = some ((27, .if_icmp .ge 34, 0, 0, 34, 0, 0, 0, []) : xm_I) := rfl
theorem r_X1_mostOf_17 : co_X1_mostOf[17]? = some ((30, .aload_n 0, 0, 0, 0, 0, 0, 0, []) : xm_I) := rfl
theorem r_X1_mostOf_18 : co_X1_mostOf[18]? = some ((31, .getfield 15, 450, 1, 1, 2, 0, 0, []) : xm_I) := rfl
theorem r_X1_mostOf_19 : co_X1_mostOf[19]? = some ((34, .iload 6, 0, 0, 0, 0, 0, 0, []) : xm_I) := rfl
theorem r_X1_mostOf_20 : co_X1_mostOf[20]? = some ((36, .laload, 0, 0, 0, 0, 0, 0, []) : xm_I) := rfl
theorem r_X1_mostOf_21 : co_X1_mostOf[21]? = some ((37, .lload_n 3, 0, 0, 0, 0, 0, 0, []) : xm_I) := rfl
theorem r_X1_mostOf_22 : co_X1_mostOf[22]? = some ((38, .lcmp, 0, 0, 0, 0, 0, 0, []) : xm_I) := rfl
theorem r_X1_mostOf_23 : co_X1_mostOf[23]? = some ((39, .ifCond .gt 22, 0, 0, 34, 0, 0, 0, []) : xm_I) := rfl
theorem r_X1_mostOf_24 : co_X1_mostOf[24]? = some ((42, .lload_n 3, 0, 0, 0, 0, 0, 0, []) : xm_I) := rfl
theorem r_X1_mostOf_25 : co_X1_mostOf[25]? = some ((43, .aload_n 0, 0, 0, 0, 0, 0, 0, []) : xm_I) := rfl
theorem r_X1_mostOf_26 : co_X1_mostOf[26]? = some ((44, .getfield 15, 450, 1, 1, 2, 0, 0, []) : xm_I) := rfl
theorem r_X1_mostOf_27 : co_X1_mostOf[27]? = some ((47, .iload 6, 0, 0, 0, 0, 0, 0, []) : xm_I) := rfl
theorem r_X1_mostOf_28 : co_X1_mostOf[28]? = some ((49, .laload, 0, 0, 0, 0, 0, 0, []) : xm_I) := rfl
theorem r_X1_mostOf_29 : co_X1_mostOf[29]? = some ((50, .lsub, 0, 0, 0, 0, 0, 0, []) : xm_I) := rfl
theorem r_X1_mostOf_30 : co_X1_mostOf[30]? = some ((51, .lstore_n 3, 0, 0, 0, 0, 0, 0, []) : xm_I) := rfl
theorem r_X1_mostOf_31 : co_X1_mostOf[31]? = some ((52, .iinc 5 1, 0, 0, 0, 0, 1, 0, []) : xm_I) := rfl
theorem r_X1_mostOf_32 : co_X1_mostOf[32]? = some ((55, .iinc 6 1, 0, 0, 0, 0, 1, 0, []) : xm_I) := rfl
theorem r_X1_mostOf_33 : co_X1_mostOf[33]? = some ((58, .goto (-44), 0, 0, 10, 0, 0, 0, []) : xm_I) := rfl
theorem r_X1_mostOf_34 : co_X1_mostOf[34]? = some ((61, .iload 5, 0, 0, 0, 0, 0, 0, []) : xm_I) := rfl
theorem r_X1_mostOf_35 : co_X1_mostOf[35]? = some ((63, .ireturn, 0, 0, 0, 0, 0, 0, []) : xm_I) := rfl
theorem p_X1_mostOf_0_0 {X : xm_X} {P : List xm_M} {d : Nat} {h : xm_H} {l0 : Nat} {l1 : Nat} {l2 : Int32} {h0 : xm_H} {ro : Option Value} {ho : xm_H} (q0 : xm_V X P d 151 [.ref l0, .ref l1] h none h0) (q1 : X.1[l0]? = some (.inr 1)) (K : xm_E X P d co_X1_mostOf 10 [some (.ref l0), some (.ref l1), some (.int l2), some (.long l2.toInt64), none, some (.int (0 : Int32)), some (.int (0 : Int32))] [] h0 ro ho) : xm_E X P d co_X1_mostOf 0 [some (.ref l0), some (.ref l1), some (.int l2), none, none, none, none] [] h ro ho := by
  refine xm_E_s r_X1_mostOf_0 rfl rfl ?_
  refine xm_E_s r_X1_mostOf_1 rfl rfl ?_
  refine xm_E_cv [.ref l0, .ref l1] [] r_X1_mostOf_2 rfl rfl (Nat.le_of_ble_eq_true rfl) (xm_rc q1 (by decide)) rfl q0 ?_
  refine xm_E_s r_X1_mostOf_3 rfl rfl ?_
  refine xm_E_s r_X1_mostOf_4 rfl rfl ?_
  refine xm_E_s (ls1 := [some (.ref l0), some (.ref l1), some (.int l2), some (.long l2.toInt64), none, none, none]) r_X1_mostOf_5 rfl rfl ?_
  refine xm_E_s r_X1_mostOf_6 rfl rfl ?_
  refine xm_E_s (ls1 := [some (.ref l0), some (.ref l1), some (.int l2), some (.long l2.toInt64), none, some (.int (0 : Int32)), none]) r_X1_mostOf_7 rfl rfl ?_
  refine xm_E_s r_X1_mostOf_8 rfl rfl ?_
  refine xm_E_s (ls1 := [some (.ref l0), some (.ref l1), some (.int l2), some (.long l2.toInt64), none, some (.int (0 : Int32)), some (.int (0 : Int32))]) r_X1_mostOf_9 rfl rfl ?_
  exact K
theorem p_X1_mostOf_10_0 {X : xm_X} {P : List xm_M} {d : Nat} {h : xm_H} {l0 : Nat} {l1 : Nat} {l2 : Int32} {l3 : Int64} {l5 : Int32} {l6 : Int32} (q0 : X.1[l1]? = some (.inr 2)) (q1 : h.1 l1 3 ≤ l6) : xm_E X P d co_X1_mostOf 10 [some (.ref l0), some (.ref l1), some (.int l2), some (.long l3), none, some (.int l5), some (.int l6)] [] h (some (.int l5)) h := by
  refine xm_E_s r_X1_mostOf_10 rfl rfl ?_
  refine xm_E_s r_X1_mostOf_11 rfl rfl ?_
  refine xm_E_s r_X1_mostOf_12 rfl (xm_T_gi rfl q0 rfl (Or.inl rfl)) ?_
  refine xm_E_s r_X1_mostOf_13 rfl rfl ?_
  refine xm_E_t q1 ?_
  refine xm_E_s r_X1_mostOf_34 rfl rfl ?_
  exact xm_E_iret r_X1_mostOf_35 rfl rfl
theorem p_X1_mostOf_10_1 {X : xm_X} {P : List xm_M} {d : Nat} {h : xm_H} {l0 : Nat} {l1 : Nat} {l2 : Int32} {l3 : Int64} {l5 : Int32} {l6 : Int32} (q0 : X.1[l1]? = some (.inr 2)) (q1 : ¬ (h.1 l1 3 ≤ l6)) (q2 : (60 : Int32) ≤ l6) : xm_E X P d co_X1_mostOf 10 [some (.ref l0), some (.ref l1), some (.int l2), some (.long l3), none, some (.int l5), some (.int l6)] [] h (some (.int l5)) h := by
  refine xm_E_s r_X1_mostOf_10 rfl rfl ?_
  refine xm_E_s r_X1_mostOf_11 rfl rfl ?_
  refine xm_E_s r_X1_mostOf_12 rfl (xm_T_gi rfl q0 rfl (Or.inl rfl)) ?_
  refine xm_E_s r_X1_mostOf_13 rfl rfl ?_
  refine xm_E_f q1 ?_
  refine xm_E_s r_X1_mostOf_14 rfl rfl ?_
  refine xm_E_s r_X1_mostOf_15 rfl rfl ?_
  refine xm_E_s r_X1_mostOf_16 rfl rfl ?_
  refine xm_E_t q2 ?_
  refine xm_E_s r_X1_mostOf_34 rfl rfl ?_
  exact xm_E_iret r_X1_mostOf_35 rfl rfl
theorem p_X1_mostOf_10_2 {X : xm_X} {P : List xm_M} {d : Nat} {h : xm_H} {l0 : Nat} {l1 : Nat} {l2 : Int32} {l3 : Int64} {l5 : Int32} {l6 : Int32} {v0 : Nat} {n1 : Nat} (q0 : X.1[l1]? = some (.inr 2)) (q1 : ¬ (h.1 l1 3 ≤ l6)) (q2 : ¬ ((60 : Int32) ≤ l6)) (q3 : X.1[l0]? = some (.inr 1)) (q4 : h.2.2 l0 1 = some v0) (q5 : X.1[v0]? = some (.inl (3, n1))) (q6 : ¬ (l6 < 0 ∨ n1 ≤ l6.toNatClampNeg)) (q7 : (0 : Int32) < lg_cmp (h.2.1 v0 l6.toNatClampNeg) l3) : xm_E X P d co_X1_mostOf 10 [some (.ref l0), some (.ref l1), some (.int l2), some (.long l3), none, some (.int l5), some (.int l6)] [] h (some (.int l5)) h := by
  refine xm_E_s r_X1_mostOf_10 rfl rfl ?_
  refine xm_E_s r_X1_mostOf_11 rfl rfl ?_
  refine xm_E_s r_X1_mostOf_12 rfl (xm_T_gi rfl q0 rfl (Or.inl rfl)) ?_
  refine xm_E_s r_X1_mostOf_13 rfl rfl ?_
  refine xm_E_f q1 ?_
  refine xm_E_s r_X1_mostOf_14 rfl rfl ?_
  refine xm_E_s r_X1_mostOf_15 rfl rfl ?_
  refine xm_E_s r_X1_mostOf_16 rfl rfl ?_
  refine xm_E_f q2 ?_
  refine xm_E_s r_X1_mostOf_17 rfl rfl ?_
  refine xm_E_s r_X1_mostOf_18 rfl (xm_T_gr rfl q3 rfl rfl q4) ?_
  refine xm_E_s r_X1_mostOf_19 rfl rfl ?_
  refine xm_E_s r_X1_mostOf_20 rfl (xm_T_lald rfl q5 q6) ?_
  refine xm_E_s r_X1_mostOf_21 rfl rfl ?_
  refine xm_E_s r_X1_mostOf_22 rfl rfl ?_
  refine xm_E_s r_X1_mostOf_23 rfl rfl ?_
  refine xm_E_t q7 ?_
  refine xm_E_s r_X1_mostOf_34 rfl rfl ?_
  exact xm_E_iret r_X1_mostOf_35 rfl rfl
theorem p_X1_mostOf_10_3 {X : xm_X} {P : List xm_M} {d : Nat} {h : xm_H} {l0 : Nat} {l1 : Nat} {l2 : Int32} {l3 : Int64} {l5 : Int32} {l6 : Int32} {v0 : Nat} {n1 : Nat} {ro : Option Value} {ho : xm_H} (q0 : X.1[l1]? = some (.inr 2)) (q1 : ¬ (h.1 l1 3 ≤ l6)) (q2 : ¬ ((60 : Int32) ≤ l6)) (q3 : X.1[l0]? = some (.inr 1)) (q4 : h.2.2 l0 1 = some v0) (q5 : X.1[v0]? = some (.inl (3, n1))) (q6 : ¬ (l6 < 0 ∨ n1 ≤ l6.toNatClampNeg)) (q7 : ¬ ((0 : Int32) < lg_cmp (h.2.1 v0 l6.toNatClampNeg) l3)) (K : xm_E X P d co_X1_mostOf 10 [some (.ref l0), some (.ref l1), some (.int l2), some (.long (l3 - (h.2.1 v0 l6.toNatClampNeg))), none, some (.int (l5 + (1 : Int32))), some (.int (l6 + (1 : Int32)))] [] h ro ho) : xm_E X P d co_X1_mostOf 10 [some (.ref l0), some (.ref l1), some (.int l2), some (.long l3), none, some (.int l5), some (.int l6)] [] h ro ho := by
  refine xm_E_s r_X1_mostOf_10 rfl rfl ?_
  refine xm_E_s r_X1_mostOf_11 rfl rfl ?_
  refine xm_E_s r_X1_mostOf_12 rfl (xm_T_gi rfl q0 rfl (Or.inl rfl)) ?_
  refine xm_E_s r_X1_mostOf_13 rfl rfl ?_
  refine xm_E_f q1 ?_
  refine xm_E_s r_X1_mostOf_14 rfl rfl ?_
  refine xm_E_s r_X1_mostOf_15 rfl rfl ?_
  refine xm_E_s r_X1_mostOf_16 rfl rfl ?_
  refine xm_E_f q2 ?_
  refine xm_E_s r_X1_mostOf_17 rfl rfl ?_
  refine xm_E_s r_X1_mostOf_18 rfl (xm_T_gr rfl q3 rfl rfl q4) ?_
  refine xm_E_s r_X1_mostOf_19 rfl rfl ?_
  refine xm_E_s r_X1_mostOf_20 rfl (xm_T_lald rfl q5 q6) ?_
  refine xm_E_s r_X1_mostOf_21 rfl rfl ?_
  refine xm_E_s r_X1_mostOf_22 rfl rfl ?_
  refine xm_E_s r_X1_mostOf_23 rfl rfl ?_
  refine xm_E_f q7 ?_
  refine xm_E_s r_X1_mostOf_24 rfl rfl ?_
  refine xm_E_s r_X1_mostOf_25 rfl rfl ?_
  refine xm_E_s r_X1_mostOf_26 rfl (xm_T_gr rfl q3 rfl rfl q4) ?_
  refine xm_E_s r_X1_mostOf_27 rfl rfl ?_
  refine xm_E_s r_X1_mostOf_28 rfl (xm_T_lald rfl q5 q6) ?_
  refine xm_E_s r_X1_mostOf_29 rfl rfl ?_
  refine xm_E_s (ls1 := [some (.ref l0), some (.ref l1), some (.int l2), some (.long (l3 - (h.2.1 v0 l6.toNatClampNeg))), none, some (.int l5), some (.int l6)]) r_X1_mostOf_30 rfl rfl ?_
  refine xm_E_s (ls1 := [some (.ref l0), some (.ref l1), some (.int l2), some (.long (l3 - (h.2.1 v0 l6.toNatClampNeg))), none, some (.int (l5 + (1 : Int32))), some (.int l6)]) r_X1_mostOf_31 rfl rfl ?_
  refine xm_E_s (ls1 := [some (.ref l0), some (.ref l1), some (.int l2), some (.long (l3 - (h.2.1 v0 l6.toNatClampNeg))), none, some (.int (l5 + (1 : Int32))), some (.int (l6 + (1 : Int32)))]) r_X1_mostOf_32 rfl rfl ?_
  refine xm_E_s r_X1_mostOf_33 rfl rfl ?_
  exact K
theorem r_X1_sort_0 : co_X1_sort[0]? = some ((0, .iconst 0, 0, 0, 0, 0, 0, 0, []) : xm_I) := rfl
theorem r_X1_sort_1 : co_X1_sort[1]? = some ((1, .istore_n 2, 0, 0, 0, 0, 0, 0, []) : xm_I) := rfl
theorem r_X1_sort_2 : co_X1_sort[2]? = some ((2, .iload_n 2, 0, 0, 0, 0, 0, 0, []) : xm_I) := rfl
theorem r_X1_sort_3 : co_X1_sort[3]? = some ((3, .aload_n 1, 0, 0, 0, 0, 0, 0, []) : xm_I) := rfl
theorem r_X1_sort_4 : co_X1_sort[4]? = some ((4, .getfield 25, 469, 2, 3, 0, 0, 0, []) : xm_I) := rfl
theorem r_X1_sort_5 : co_X1_sort[5]? = some ((7, .if_icmp .ge 69, 0, 0, 45, 0, 0, 0, []) : xm_I) := rfl
theorem r_X1_sort_6 : co_X1_sort[6]? = some ((10, .iload_n 2, 0, 0, 0, 0, 0, 0, []) : xm_I) := rfl
theorem r_X1_sort_7 : co_X1_sort[7]? = some ((11, .bipush 60, 0, 0, 0, 0, 60, 0, []) : xm_I) := rfl
theorem r_X1_sort_8 : co_X1_sort[8]? = some ((13, .if_icmp .ge 63, 0, 0, 45, 0, 0, 0, []) : xm_I) := rfl
theorem r_X1_sort_9 : co_X1_sort[9]? = some ((16, .iload_n 2, 0, 0, 0, 0, 0, 0, []) : xm_I) := rfl
theorem r_X1_sort_10 : co_X1_sort[10]? = some ((17, .istore_n 3, 0, 0, 0, 0, 0, 0, []) : xm_I) := rfl
theorem r_X1_sort_11 : co_X1_sort[11]? = some ((18, .iload_n 3, 0, 0, 0, 0, 0, 0, []) : xm_I) := rfl
theorem r_X1_sort_12 : co_X1_sort[12]? = some ((19, .ifCond .le 40, 0, 0, 36, 0, 0, 0, []) : xm_I) := rfl
theorem r_X1_sort_13 : co_X1_sort[13]? = some ((22, .aload_n 0, 0, 0, 0, 0, 0, 0, []) : xm_I) := rfl
theorem r_X1_sort_14 : co_X1_sort[14]? = some ((23, .getfield 15, 450, 1, 1, 2, 0, 0, []) : xm_I) := rfl
theorem r_X1_sort_15 : co_X1_sort[15]? = some ((26, .iload_n 3, 0, 0, 0, 0, 0, 0, []) : xm_I) := rfl
theorem r_X1_sort_16 : co_X1_sort[16]? = some ((27, .iconst 1, 0, 0, 0, 0, 1, 0, []) : xm_I) := rfl
theorem r_X1_sort_17 : co_X1_sort[17]? = some ((28, .isub, 0, 0, 0, 0, 0, 0, []) : xm_I) := rfl
theorem r_X1_sort_18 : co_X1_sort[18]? = some ((29, .laload, 0, 0, 0, 0, 0, 0, []) : xm_I) := rfl
theorem r_X1_sort_19 : co_X1_sort[19]? = some ((30, .aload_n 1, 0, 0, 0, 0, 0, 0, []) : xm_I) := rfl
theorem r_X1_sort_20 : co_X1_sort[20]? = some ((31, .iload_n 2, 0, 0, 0, 0, 0, 0, []) : xm_I) := rfl
theorem r_X1_sort_21 : co_X1_sort[21]? = some ((32, .invokevirtual 31, 1190, 70, 2, 2, 0, 0, []) : xm_I) := rfl
theorem r_X1_sort_22 : co_X1_sort[22]? = some ((35, .lcmp, 0, 0, 0, 0, 0, 0, []) : xm_I) := rfl
theorem r_X1_sort_23 : co_X1_sort[23]? = some ((36, .ifCond .le 23, 0, 0, 36, 0, 0, 0, []) : xm_I) := rfl
theorem r_X1_sort_24 : co_X1_sort[24]? = some ((39, .aload_n 0, 0, 0, 0, 0, 0, 0, []) : xm_I) := rfl
theorem r_X1_sort_25 : co_X1_sort[25]? = some ((40, .getfield 15, 450, 1, 1, 2, 0, 0, []) : xm_I) := rfl
theorem r_X1_sort_26 : co_X1_sort[26]? = some ((43, .iload_n 3, 0, 0, 0, 0, 0, 0, []) : xm_I) := rfl
theorem r_X1_sort_27 : co_X1_sort[27]? = some ((44, .aload_n 0, 0, 0, 0, 0, 0, 0, []) : xm_I) := rfl
theorem r_X1_sort_28 : co_X1_sort[28]? = some ((45, .getfield 15, 450, 1, 1, 2, 0, 0, []) : xm_I) := rfl
theorem r_X1_sort_29 : co_X1_sort[29]? = some ((48, .iload_n 3, 0, 0, 0, 0, 0, 0, []) : xm_I) := rfl
theorem r_X1_sort_30 : co_X1_sort[30]? = some ((49, .iconst 1, 0, 0, 0, 0, 1, 0, []) : xm_I) := rfl
theorem r_X1_sort_31 : co_X1_sort[31]? = some ((50, .isub, 0, 0, 0, 0, 0, 0, []) : xm_I) := rfl
theorem r_X1_sort_32 : co_X1_sort[32]? = some ((51, .laload, 0, 0, 0, 0, 0, 0, []) : xm_I) := rfl
theorem r_X1_sort_33 : co_X1_sort[33]? = some ((52, .lastore, 0, 0, 0, 0, 0, 0, []) : xm_I) := rfl
theorem r_X1_sort_34 : co_X1_sort[34]? = some ((53, .iinc 3 (-1), 0, 0, 0, 0, (-1), 0, []) : xm_I) := rfl
theorem r_X1_sort_35 : co_X1_sort[35]? = some ((56, .goto (-38), 0, 0, 11, 0, 0, 0, []) : xm_I) := rfl
theorem r_X1_sort_36 : co_X1_sort[36]? = some ((59, .aload_n 0, 0, 0, 0, 0, 0, 0, []) : xm_I) := rfl
theorem r_X1_sort_37 : co_X1_sort[37]? = some ((60, .getfield 15, 450, 1, 1, 2, 0, 0, []) : xm_I) := rfl
theorem r_X1_sort_38 : co_X1_sort[38]? = some ((63, .iload_n 3, 0, 0, 0, 0, 0, 0, []) : xm_I) := rfl
theorem r_X1_sort_39 : co_X1_sort[39]? = some ((64, .aload_n 1, 0, 0, 0, 0, 0, 0, []) : xm_I) := rfl
theorem r_X1_sort_40 : co_X1_sort[40]? = some ((65, .iload_n 2, 0, 0, 0, 0, 0, 0, []) : xm_I) := rfl
theorem r_X1_sort_41 : co_X1_sort[41]? = some ((66, .invokevirtual 31, 1190, 70, 2, 2, 0, 0, []) : xm_I) := rfl
theorem r_X1_sort_42 : co_X1_sort[42]? = some ((69, .lastore, 0, 0, 0, 0, 0, 0, []) : xm_I) := rfl
theorem r_X1_sort_43 : co_X1_sort[43]? = some ((70, .iinc 2 1, 0, 0, 0, 0, 1, 0, []) : xm_I) := rfl
theorem r_X1_sort_44 : co_X1_sort[44]? = some ((73, .goto (-71), 0, 0, 2, 0, 0, 0, []) : xm_I) := rfl
theorem r_X1_sort_45 : co_X1_sort[45]? = some ((76, .return_, 0, 0, 0, 0, 0, 0, []) : xm_I) := rfl
theorem p_X1_sort_0_0 {X : xm_X} {P : List xm_M} {d : Nat} {h : xm_H} {l0 : Nat} {l1 : Nat} {ro : Option Value} {ho : xm_H}  (K : xm_E X P d co_X1_sort 2 [some (.ref l0), some (.ref l1), some (.int (0 : Int32)), none] [] h ro ho) : xm_E X P d co_X1_sort 0 [some (.ref l0), some (.ref l1), none, none] [] h ro ho := by
  refine xm_E_s r_X1_sort_0 rfl rfl ?_
  refine xm_E_s (ls1 := [some (.ref l0), some (.ref l1), some (.int (0 : Int32)), none]) r_X1_sort_1 rfl rfl ?_
  exact K
theorem p_X1_sort_2_0 {X : xm_X} {P : List xm_M} {d : Nat} {h : xm_H} {l0 : Nat} {l1 : Nat} {l2 : Int32} {l3 : Option Value} (q0 : X.1[l1]? = some (.inr 2)) (q1 : h.1 l1 3 ≤ l2) : xm_E X P d co_X1_sort 2 [some (.ref l0), some (.ref l1), some (.int l2), l3] [] h none h := by
  refine xm_E_s r_X1_sort_2 rfl rfl ?_
  refine xm_E_s r_X1_sort_3 rfl rfl ?_
  refine xm_E_s r_X1_sort_4 rfl (xm_T_gi rfl q0 rfl (Or.inl rfl)) ?_
  refine xm_E_s r_X1_sort_5 rfl rfl ?_
  refine xm_E_t q1 ?_
  exact xm_E_ret r_X1_sort_45 rfl
theorem p_X1_sort_2_1 {X : xm_X} {P : List xm_M} {d : Nat} {h : xm_H} {l0 : Nat} {l1 : Nat} {l2 : Int32} {l3 : Option Value} (q0 : X.1[l1]? = some (.inr 2)) (q1 : ¬ (h.1 l1 3 ≤ l2)) (q2 : (60 : Int32) ≤ l2) : xm_E X P d co_X1_sort 2 [some (.ref l0), some (.ref l1), some (.int l2), l3] [] h none h := by
  refine xm_E_s r_X1_sort_2 rfl rfl ?_
  refine xm_E_s r_X1_sort_3 rfl rfl ?_
  refine xm_E_s r_X1_sort_4 rfl (xm_T_gi rfl q0 rfl (Or.inl rfl)) ?_
  refine xm_E_s r_X1_sort_5 rfl rfl ?_
  refine xm_E_f q1 ?_
  refine xm_E_s r_X1_sort_6 rfl rfl ?_
  refine xm_E_s r_X1_sort_7 rfl rfl ?_
  refine xm_E_s r_X1_sort_8 rfl rfl ?_
  refine xm_E_t q2 ?_
  exact xm_E_ret r_X1_sort_45 rfl
theorem p_X1_sort_2_2 {X : xm_X} {P : List xm_M} {d : Nat} {h : xm_H} {l0 : Nat} {l1 : Nat} {l2 : Int32} {l3 : Option Value} {ro : Option Value} {ho : xm_H} (q0 : X.1[l1]? = some (.inr 2)) (q1 : ¬ (h.1 l1 3 ≤ l2)) (q2 : ¬ ((60 : Int32) ≤ l2)) (K : xm_E X P d co_X1_sort 11 [some (.ref l0), some (.ref l1), some (.int l2), some (.int l2)] [] h ro ho) : xm_E X P d co_X1_sort 2 [some (.ref l0), some (.ref l1), some (.int l2), l3] [] h ro ho := by
  refine xm_E_s r_X1_sort_2 rfl rfl ?_
  refine xm_E_s r_X1_sort_3 rfl rfl ?_
  refine xm_E_s r_X1_sort_4 rfl (xm_T_gi rfl q0 rfl (Or.inl rfl)) ?_
  refine xm_E_s r_X1_sort_5 rfl rfl ?_
  refine xm_E_f q1 ?_
  refine xm_E_s r_X1_sort_6 rfl rfl ?_
  refine xm_E_s r_X1_sort_7 rfl rfl ?_
  refine xm_E_s r_X1_sort_8 rfl rfl ?_
  refine xm_E_f q2 ?_
  refine xm_E_s r_X1_sort_9 rfl rfl ?_
  refine xm_E_s (ls1 := [some (.ref l0), some (.ref l1), some (.int l2), some (.int l2)]) r_X1_sort_10 rfl rfl ?_
  exact K
theorem p_X1_sort_11_0 {X : xm_X} {P : List xm_M} {d : Nat} {h : xm_H} {l0 : Nat} {l1 : Nat} {l2 : Int32} {l3 : Int32} {v0 : Nat} {h1 : xm_H} {r1 : Int64} {n2 : Nat} {ro : Option Value} {ho : xm_H} (q0 : l3 ≤ (0 : Int32)) (q1 : X.1[l0]? = some (.inr 1)) (q2 : h.2.2 l0 1 = some v0) (q3 : xm_V X P d 70 [.ref l1, .int l2] h (some (.long r1)) h1) (q4 : X.1[l1]? = some (.inr 2)) (q5 : X.1[v0]? = some (.inl (3, n2))) (q6 : ¬ (l3 < 0 ∨ n2 ≤ l3.toNatClampNeg)) (K : xm_E X P d co_X1_sort 2 [some (.ref l0), some (.ref l1), some (.int (l2 + (1 : Int32))), some (.int l3)] [] (xm_sl h1 v0 l3.toNatClampNeg r1) ro ho) : xm_E X P d co_X1_sort 11 [some (.ref l0), some (.ref l1), some (.int l2), some (.int l3)] [] h ro ho := by
  refine xm_E_s r_X1_sort_11 rfl rfl ?_
  refine xm_E_s r_X1_sort_12 rfl rfl ?_
  refine xm_E_t q0 ?_
  refine xm_E_s r_X1_sort_36 rfl rfl ?_
  refine xm_E_s r_X1_sort_37 rfl (xm_T_gr rfl q1 rfl rfl q2) ?_
  refine xm_E_s r_X1_sort_38 rfl rfl ?_
  refine xm_E_s r_X1_sort_39 rfl rfl ?_
  refine xm_E_s r_X1_sort_40 rfl rfl ?_
  refine xm_E_cv [.ref l1, .int l2] [.int l3, .ref v0] r_X1_sort_41 rfl rfl (Nat.le_of_ble_eq_true rfl) (xm_rc q4 (by decide)) rfl q3 ?_
  refine xm_E_s r_X1_sort_42 rfl (xm_T_last rfl q5 q6) ?_
  refine xm_E_s (ls1 := [some (.ref l0), some (.ref l1), some (.int (l2 + (1 : Int32))), some (.int l3)]) r_X1_sort_43 rfl rfl ?_
  refine xm_E_s r_X1_sort_44 rfl rfl ?_
  exact K
theorem p_X1_sort_11_1 {X : xm_X} {P : List xm_M} {d : Nat} {h : xm_H} {l0 : Nat} {l1 : Nat} {l2 : Int32} {l3 : Int32} {v0 : Nat} {n1 : Nat} {h2 : xm_H} {r2 : Int64} {v3 : Nat} {h4 : xm_H} {r4 : Int64} {n5 : Nat} {ro : Option Value} {ho : xm_H} (q0 : ¬ (l3 ≤ (0 : Int32))) (q1 : X.1[l0]? = some (.inr 1)) (q2 : h.2.2 l0 1 = some v0) (q3 : X.1[v0]? = some (.inl (3, n1))) (q4 : ¬ (l3 - (1 : Int32) < 0 ∨ n1 ≤ (l3 - (1 : Int32)).toNatClampNeg)) (q5 : xm_V X P d 70 [.ref l1, .int l2] h (some (.long r2)) h2) (q6 : X.1[l1]? = some (.inr 2)) (q7 : lg_cmp (h.2.1 v0 ((l3 - (1 : Int32)).toNatClampNeg)) r2 ≤ (0 : Int32)) (q8 : h2.2.2 l0 1 = some v3) (q9 : xm_V X P d 70 [.ref l1, .int l2] h2 (some (.long r4)) h4) (q10 : X.1[v3]? = some (.inl (3, n5))) (q11 : ¬ (l3 < 0 ∨ n5 ≤ l3.toNatClampNeg)) (K : xm_E X P d co_X1_sort 2 [some (.ref l0), some (.ref l1), some (.int (l2 + (1 : Int32))), some (.int l3)] [] (xm_sl h4 v3 l3.toNatClampNeg r4) ro ho) : xm_E X P d co_X1_sort 11 [some (.ref l0), some (.ref l1), some (.int l2), some (.int l3)] [] h ro ho := by
  refine xm_E_s r_X1_sort_11 rfl rfl ?_
  refine xm_E_s r_X1_sort_12 rfl rfl ?_
  refine xm_E_f q0 ?_
  refine xm_E_s r_X1_sort_13 rfl rfl ?_
  refine xm_E_s r_X1_sort_14 rfl (xm_T_gr rfl q1 rfl rfl q2) ?_
  refine xm_E_s r_X1_sort_15 rfl rfl ?_
  refine xm_E_s r_X1_sort_16 rfl rfl ?_
  refine xm_E_s r_X1_sort_17 rfl rfl ?_
  refine xm_E_s r_X1_sort_18 rfl (xm_T_lald rfl q3 q4) ?_
  refine xm_E_s r_X1_sort_19 rfl rfl ?_
  refine xm_E_s r_X1_sort_20 rfl rfl ?_
  refine xm_E_cv [.ref l1, .int l2] [.long (h.2.1 v0 ((l3 - (1 : Int32)).toNatClampNeg))] r_X1_sort_21 rfl rfl (Nat.le_of_ble_eq_true rfl) (xm_rc q6 (by decide)) rfl q5 ?_
  refine xm_E_s r_X1_sort_22 rfl rfl ?_
  refine xm_E_s r_X1_sort_23 rfl rfl ?_
  refine xm_E_t q7 ?_
  refine xm_E_s r_X1_sort_36 rfl rfl ?_
  refine xm_E_s r_X1_sort_37 rfl (xm_T_gr rfl q1 rfl rfl q8) ?_
  refine xm_E_s r_X1_sort_38 rfl rfl ?_
  refine xm_E_s r_X1_sort_39 rfl rfl ?_
  refine xm_E_s r_X1_sort_40 rfl rfl ?_
  refine xm_E_cv [.ref l1, .int l2] [.int l3, .ref v3] r_X1_sort_41 rfl rfl (Nat.le_of_ble_eq_true rfl) (xm_rc q6 (by decide)) rfl q9 ?_
  refine xm_E_s r_X1_sort_42 rfl (xm_T_last rfl q10 q11) ?_
  refine xm_E_s (ls1 := [some (.ref l0), some (.ref l1), some (.int (l2 + (1 : Int32))), some (.int l3)]) r_X1_sort_43 rfl rfl ?_
  refine xm_E_s r_X1_sort_44 rfl rfl ?_
  exact K
theorem p_X1_sort_11_2 {X : xm_X} {P : List xm_M} {d : Nat} {h : xm_H} {l0 : Nat} {l1 : Nat} {l2 : Int32} {l3 : Int32} {v0 : Nat} {n1 : Nat} {h2 : xm_H} {r2 : Int64} {v3 : Nat} {n4 : Nat} {ro : Option Value} {ho : xm_H} (q0 : ¬ (l3 ≤ (0 : Int32))) (q1 : X.1[l0]? = some (.inr 1)) (q2 : h.2.2 l0 1 = some v0) (q3 : X.1[v0]? = some (.inl (3, n1))) (q4 : ¬ (l3 - (1 : Int32) < 0 ∨ n1 ≤ (l3 - (1 : Int32)).toNatClampNeg)) (q5 : xm_V X P d 70 [.ref l1, .int l2] h (some (.long r2)) h2) (q6 : X.1[l1]? = some (.inr 2)) (q7 : ¬ (lg_cmp (h.2.1 v0 ((l3 - (1 : Int32)).toNatClampNeg)) r2 ≤ (0 : Int32))) (q8 : h2.2.2 l0 1 = some v3) (q9 : X.1[v3]? = some (.inl (3, n4))) (q10 : ¬ (l3 - (1 : Int32) < 0 ∨ n4 ≤ (l3 - (1 : Int32)).toNatClampNeg)) (q11 : ¬ (l3 < 0 ∨ n4 ≤ l3.toNatClampNeg)) (K : xm_E X P d co_X1_sort 11 [some (.ref l0), some (.ref l1), some (.int l2), some (.int (l3 + (-1 : Int32)))] [] (xm_sl h2 v3 l3.toNatClampNeg (h2.2.1 v3 ((l3 - (1 : Int32)).toNatClampNeg))) ro ho) : xm_E X P d co_X1_sort 11 [some (.ref l0), some (.ref l1), some (.int l2), some (.int l3)] [] h ro ho := by
  refine xm_E_s r_X1_sort_11 rfl rfl ?_
  refine xm_E_s r_X1_sort_12 rfl rfl ?_
  refine xm_E_f q0 ?_
  refine xm_E_s r_X1_sort_13 rfl rfl ?_
  refine xm_E_s r_X1_sort_14 rfl (xm_T_gr rfl q1 rfl rfl q2) ?_
  refine xm_E_s r_X1_sort_15 rfl rfl ?_
  refine xm_E_s r_X1_sort_16 rfl rfl ?_
  refine xm_E_s r_X1_sort_17 rfl rfl ?_
  refine xm_E_s r_X1_sort_18 rfl (xm_T_lald rfl q3 q4) ?_
  refine xm_E_s r_X1_sort_19 rfl rfl ?_
  refine xm_E_s r_X1_sort_20 rfl rfl ?_
  refine xm_E_cv [.ref l1, .int l2] [.long (h.2.1 v0 ((l3 - (1 : Int32)).toNatClampNeg))] r_X1_sort_21 rfl rfl (Nat.le_of_ble_eq_true rfl) (xm_rc q6 (by decide)) rfl q5 ?_
  refine xm_E_s r_X1_sort_22 rfl rfl ?_
  refine xm_E_s r_X1_sort_23 rfl rfl ?_
  refine xm_E_f q7 ?_
  refine xm_E_s r_X1_sort_24 rfl rfl ?_
  refine xm_E_s r_X1_sort_25 rfl (xm_T_gr rfl q1 rfl rfl q8) ?_
  refine xm_E_s r_X1_sort_26 rfl rfl ?_
  refine xm_E_s r_X1_sort_27 rfl rfl ?_
  refine xm_E_s r_X1_sort_28 rfl (xm_T_gr rfl q1 rfl rfl q8) ?_
  refine xm_E_s r_X1_sort_29 rfl rfl ?_
  refine xm_E_s r_X1_sort_30 rfl rfl ?_
  refine xm_E_s r_X1_sort_31 rfl rfl ?_
  refine xm_E_s r_X1_sort_32 rfl (xm_T_lald rfl q9 q10) ?_
  refine xm_E_s r_X1_sort_33 rfl (xm_T_last rfl q9 q11) ?_
  refine xm_E_s (ls1 := [some (.ref l0), some (.ref l1), some (.int l2), some (.int (l3 + (-1 : Int32)))]) r_X1_sort_34 rfl rfl ?_
  refine xm_E_s r_X1_sort_35 rfl rfl ?_
  exact K
theorem r_X0_secondsForSheets_0 : co_X0_secondsForSheets[0]? = some ((0, .iconst 0, 0, 0, 0, 0, 0, 0, []) : xm_I) := rfl
theorem r_X0_secondsForSheets_1 : co_X0_secondsForSheets[1]? = some ((1, .istore_n 3, 0, 0, 0, 0, 0, 0, []) : xm_I) := rfl
theorem r_X0_secondsForSheets_2 : co_X0_secondsForSheets[2]? = some ((2, .iconst 0, 0, 0, 0, 0, 0, 0, []) : xm_I) := rfl
theorem r_X0_secondsForSheets_3 : co_X0_secondsForSheets[3]? = some ((3, .istore 4, 0, 0, 0, 0, 0, 0, []) : xm_I) := rfl
theorem r_X0_secondsForSheets_4 : co_X0_secondsForSheets[4]? = some ((5, .iload 4, 0, 0, 0, 0, 0, 0, []) : xm_I) := rfl
theorem r_X0_secondsForSheets_5 : co_X0_secondsForSheets[5]? = some ((7, .iload_n 2, 0, 0, 0, 0, 0, 0, []) : xm_I) := rfl
theorem r_X0_secondsForSheets_6 : co_X0_secondsForSheets[6]? = some ((8, .if_icmp .ge 19, 0, 0, 16, 0, 0, 0, []) : xm_I) := rfl
theorem r_X0_secondsForSheets_7 : co_X0_secondsForSheets[7]? = some ((11, .iload_n 3, 0, 0, 0, 0, 0, 0, []) : xm_I) := rfl
theorem r_X0_secondsForSheets_8 : co_X0_secondsForSheets[8]? = some ((12, .aload_n 0, 0, 0, 0, 0, 0, 0, []) : xm_I) := rfl
theorem r_X0_secondsForSheets_9 : co_X0_secondsForSheets[9]? = some ((13, .iload_n 1, 0, 0, 0, 0, 0, 0, []) : xm_I) := rfl
theorem r_X0_secondsForSheets_10 : co_X0_secondsForSheets[10]? = some ((14, .iload 4, 0, 0, 0, 0, 0, 0, []) : xm_I) := rfl
theorem r_X0_secondsForSheets_11 : co_X0_secondsForSheets[11]? = some ((16, .invokevirtual 138, 1219, 156, 3, 0, 0, 0, []) : xm_I) := rfl
theorem r_X0_secondsForSheets_12 : co_X0_secondsForSheets[12]? = some ((19, .iadd, 0, 0, 0, 0, 0, 0, []) : xm_I) := rfl
theorem r_X0_secondsForSheets_13 : co_X0_secondsForSheets[13]? = some ((20, .istore_n 3, 0, 0, 0, 0, 0, 0, []) : xm_I) := rfl
theorem r_X0_secondsForSheets_14 : co_X0_secondsForSheets[14]? = some ((21, .iinc 4 1, 0, 0, 0, 0, 1, 0, []) : xm_I) := rfl
theorem r_X0_secondsForSheets_15 : co_X0_secondsForSheets[15]? = some ((24, .goto (-19), 0, 0, 4, 0, 0, 0, []) : xm_I) := rfl
theorem r_X0_secondsForSheets_16 : co_X0_secondsForSheets[16]? = some ((27, .iload_n 3, 0, 0, 0, 0, 0, 0, []) : xm_I) := rfl
theorem r_X0_secondsForSheets_17 : co_X0_secondsForSheets[17]? = some ((28, .ireturn, 0, 0, 0, 0, 0, 0, []) : xm_I) := rfl
theorem p_X0_secondsForSheets_0_0 {X : xm_X} {P : List xm_M} {d : Nat} {h : xm_H} {l0 : Nat} {l1 : Int32} {l2 : Int32} {ro : Option Value} {ho : xm_H}  (K : xm_E X P d co_X0_secondsForSheets 4 [some (.ref l0), some (.int l1), some (.int l2), some (.int (0 : Int32)), some (.int (0 : Int32))] [] h ro ho) : xm_E X P d co_X0_secondsForSheets 0 [some (.ref l0), some (.int l1), some (.int l2), none, none] [] h ro ho := by
  refine xm_E_s r_X0_secondsForSheets_0 rfl rfl ?_
  refine xm_E_s (ls1 := [some (.ref l0), some (.int l1), some (.int l2), some (.int (0 : Int32)), none]) r_X0_secondsForSheets_1 rfl rfl ?_
  refine xm_E_s r_X0_secondsForSheets_2 rfl rfl ?_
  refine xm_E_s (ls1 := [some (.ref l0), some (.int l1), some (.int l2), some (.int (0 : Int32)), some (.int (0 : Int32))]) r_X0_secondsForSheets_3 rfl rfl ?_
  exact K
theorem p_X0_secondsForSheets_4_0 {X : xm_X} {P : List xm_M} {d : Nat} {h : xm_H} {l0 : Nat} {l1 : Int32} {l2 : Int32} {l3 : Int32} {l4 : Int32} (q0 : l2 ≤ l4) : xm_E X P d co_X0_secondsForSheets 4 [some (.ref l0), some (.int l1), some (.int l2), some (.int l3), some (.int l4)] [] h (some (.int l3)) h := by
  refine xm_E_s r_X0_secondsForSheets_4 rfl rfl ?_
  refine xm_E_s r_X0_secondsForSheets_5 rfl rfl ?_
  refine xm_E_s r_X0_secondsForSheets_6 rfl rfl ?_
  refine xm_E_t q0 ?_
  refine xm_E_s r_X0_secondsForSheets_16 rfl rfl ?_
  exact xm_E_iret r_X0_secondsForSheets_17 rfl rfl
theorem p_X0_secondsForSheets_4_1 {X : xm_X} {P : List xm_M} {d : Nat} {h : xm_H} {l0 : Nat} {l1 : Int32} {l2 : Int32} {l3 : Int32} {l4 : Int32} {h0 : xm_H} {r0 : Int32} {ro : Option Value} {ho : xm_H} (q0 : ¬ (l2 ≤ l4)) (q1 : xm_V X P d 156 [.ref l0, .int l1, .int l4] h (some (.int r0)) h0) (q2 : X.1[l0]? = some (.inr 0)) (K : xm_E X P d co_X0_secondsForSheets 4 [some (.ref l0), some (.int l1), some (.int l2), some (.int (l3 + r0)), some (.int (l4 + (1 : Int32)))] [] h0 ro ho) : xm_E X P d co_X0_secondsForSheets 4 [some (.ref l0), some (.int l1), some (.int l2), some (.int l3), some (.int l4)] [] h ro ho := by
  refine xm_E_s r_X0_secondsForSheets_4 rfl rfl ?_
  refine xm_E_s r_X0_secondsForSheets_5 rfl rfl ?_
  refine xm_E_s r_X0_secondsForSheets_6 rfl rfl ?_
  refine xm_E_f q0 ?_
  refine xm_E_s r_X0_secondsForSheets_7 rfl rfl ?_
  refine xm_E_s r_X0_secondsForSheets_8 rfl rfl ?_
  refine xm_E_s r_X0_secondsForSheets_9 rfl rfl ?_
  refine xm_E_s r_X0_secondsForSheets_10 rfl rfl ?_
  refine xm_E_cv [.ref l0, .int l1, .int l4] [.int l3] r_X0_secondsForSheets_11 rfl rfl (Nat.le_of_ble_eq_true rfl) (xm_rc q2 (by decide)) rfl q1 ?_
  refine xm_E_s r_X0_secondsForSheets_12 rfl rfl ?_
  refine xm_E_s (ls1 := [some (.ref l0), some (.int l1), some (.int l2), some (.int (l3 + r0)), some (.int l4)]) r_X0_secondsForSheets_13 rfl rfl ?_
  refine xm_E_s (ls1 := [some (.ref l0), some (.int l1), some (.int l2), some (.int (l3 + r0)), some (.int (l4 + (1 : Int32)))]) r_X0_secondsForSheets_14 rfl rfl ?_
  refine xm_E_s r_X0_secondsForSheets_15 rfl rfl ?_
  exact K
theorem r_X0_secondsForSheet_0 : co_X0_secondsForSheet[0]? = some ((0, .iload_n 1, 0, 0, 0, 0, 0, 0, []) : xm_I) := rfl
theorem r_X0_secondsForSheet_1 : co_X0_secondsForSheet[1]? = some ((1, .ifCond .lt 23, 0, 0, 12, 0, 0, 0, []) : xm_I) := rfl
theorem r_X0_secondsForSheet_2 : co_X0_secondsForSheet[2]? = some ((4, .iload_n 1, 0, 0, 0, 0, 0, 0, []) : xm_I) := rfl
theorem r_X0_secondsForSheet_3 : co_X0_secondsForSheet[3]? = some ((5, .aload_n 0, 0, 0, 0, 0, 0, 0, []) : xm_I) := rfl
theorem r_X0_secondsForSheet_4 : co_X0_secondsForSheet[4]? = some ((6, .getfield 28, 256, 0, 16, 2, 0, 0, []) : xm_I) := rfl
theorem r_X0_secondsForSheet_5 : co_X0_secondsForSheet[5]? = some ((9, .arraylength, 0, 0, 0, 0, 0, 0, []) : xm_I) := rfl
theorem r_X0_secondsForSheet_6 : co_X0_secondsForSheet[6]? = some ((10, .if_icmp .ge 14, 0, 0, 12, 0, 0, 0, []) : xm_I) := rfl
theorem r_X0_secondsForSheet_7 : co_X0_secondsForSheet[7]? = some ((13, .iload_n 2, 0, 0, 0, 0, 0, 0, []) : xm_I) := rfl
theorem r_X0_secondsForSheet_8 : co_X0_secondsForSheet[8]? = some ((14, .ifCond .lt 10, 0, 0, 12, 0, 0, 0, []) : xm_I) := rfl
theorem r_X0_secondsForSheet_9 : co_X0_secondsForSheet[9]? = some ((17, .iload_n 2, 0, 0, 0, 0, 0, 0, []) : xm_I) := rfl
theorem r_X0_secondsForSheet_10 : co_X0_secondsForSheet[10]? = some ((18, .sipush 999, 0, 0, 0, 0, 999, 0, []) : xm_I) := rfl
theorem r_X0_secondsForSheet_11 : co_X0_secondsForSheet[11]? = some ((21, .if_icmp .le 5, 0, 0, 14, 0, 0, 0, []) : xm_I) := rfl
theorem r_X0_secondsForSheet_12 : co_X0_secondsForSheet[12]? = some ((24, .iconst 0, 0, 0, 0, 0, 0, 0, []) : xm_I) := rfl
theorem r_X0_secondsForSheet_13 : co_X0_secondsForSheet[13]? = some ((25, .ireturn, 0, 0, 0, 0, 0, 0, []) : xm_I) := rfl
theorem r_X0_secondsForSheet_14 : co_X0_secondsForSheet[14]? = some ((26, .aload_n 0, 0, 0, 0, 0, 0, 0, []) : xm_I) := rfl
theorem r_X0_secondsForSheet_15 : co_X0_secondsForSheet[15]? = some ((27, .getfield 28, 256, 0, 16, 2, 0, 0, []) : xm_I) := rfl
theorem r_X0_secondsForSheet_16 : co_X0_secondsForSheet[16]? = some ((30, .iload_n 1, 0, 0, 0, 0, 0, 0, []) : xm_I) := rfl
theorem r_X0_secondsForSheet_17 : co_X0_secondsForSheet[17]? = some ((31, .iaload, 0, 0, 0, 0, 0, 0, []) : xm_I) := rfl
theorem r_X0_secondsForSheet_18 : co_X0_secondsForSheet[18]? = some ((32, .aload_n 0, 0, 0, 0, 0, 0, 0, []) : xm_I) := rfl
theorem r_X0_secondsForSheet_19 : co_X0_secondsForSheet[19]? = some ((33, .getfield 31, 258, 0, 17, 2, 0, 0, []) : xm_I) := rfl
theorem r_X0_secondsForSheet_20 : co_X0_secondsForSheet[20]? = some ((36, .iload_n 1, 0, 0, 0, 0, 0, 0, []) : xm_I) := rfl
theorem r_X0_secondsForSheet_21 : co_X0_secondsForSheet[21]? = some ((37, .iaload, 0, 0, 0, 0, 0, 0, []) : xm_I) := rfl
theorem r_X0_secondsForSheet_22 : co_X0_secondsForSheet[22]? = some ((38, .iload_n 2, 0, 0, 0, 0, 0, 0, []) : xm_I) := rfl
theorem r_X0_secondsForSheet_23 : co_X0_secondsForSheet[23]? = some ((39, .iconst 1, 0, 0, 0, 0, 1, 0, []) : xm_I) := rfl
theorem r_X0_secondsForSheet_24 : co_X0_secondsForSheet[24]? = some ((40, .iadd, 0, 0, 0, 0, 0, 0, []) : xm_I) := rfl
theorem r_X0_secondsForSheet_25 : co_X0_secondsForSheet[25]? = some ((41, .idiv, 0, 0, 0, 0, 0, 0, []) : xm_I) := rfl
theorem r_X0_secondsForSheet_26 : co_X0_secondsForSheet[26]? = some ((42, .iadd, 0, 0, 0, 0, 0, 0, []) : xm_I) := rfl
theorem r_X0_secondsForSheet_27 : co_X0_secondsForSheet[27]? = some ((43, .ireturn, 0, 0, 0, 0, 0, 0, []) : xm_I) := rfl
theorem p_X0_secondsForSheet_0_0 {X : xm_X} {P : List xm_M} {d : Nat} {h : xm_H} {l0 : Nat} {l1 : Int32} {l2 : Int32} (q0 : l1 < (0 : Int32)) : xm_E X P d co_X0_secondsForSheet 0 [some (.ref l0), some (.int l1), some (.int l2)] [] h (some (.int (0 : Int32))) h := by
  refine xm_E_s r_X0_secondsForSheet_0 rfl rfl ?_
  refine xm_E_s r_X0_secondsForSheet_1 rfl rfl ?_
  refine xm_E_t q0 ?_
  refine xm_E_s r_X0_secondsForSheet_12 rfl rfl ?_
  exact xm_E_iret r_X0_secondsForSheet_13 rfl rfl
theorem p_X0_secondsForSheet_0_1 {X : xm_X} {P : List xm_M} {d : Nat} {h : xm_H} {l0 : Nat} {l1 : Int32} {l2 : Int32} {v0 : Nat} {n1 : Nat} (q0 : ¬ (l1 < (0 : Int32))) (q1 : X.1[l0]? = some (.inr 0)) (q2 : h.2.2 l0 16 = some v0) (q3 : X.1[v0]? = some (.inl (0, n1))) (q4 : Int32.ofNat n1 ≤ l1) : xm_E X P d co_X0_secondsForSheet 0 [some (.ref l0), some (.int l1), some (.int l2)] [] h (some (.int (0 : Int32))) h := by
  refine xm_E_s r_X0_secondsForSheet_0 rfl rfl ?_
  refine xm_E_s r_X0_secondsForSheet_1 rfl rfl ?_
  refine xm_E_f q0 ?_
  refine xm_E_s r_X0_secondsForSheet_2 rfl rfl ?_
  refine xm_E_s r_X0_secondsForSheet_3 rfl rfl ?_
  refine xm_E_s r_X0_secondsForSheet_4 rfl (xm_T_gr rfl q1 rfl rfl q2) ?_
  refine xm_E_s r_X0_secondsForSheet_5 rfl (xm_T_alen rfl q3 (by decide)) ?_
  refine xm_E_s r_X0_secondsForSheet_6 rfl rfl ?_
  refine xm_E_t q4 ?_
  refine xm_E_s r_X0_secondsForSheet_12 rfl rfl ?_
  exact xm_E_iret r_X0_secondsForSheet_13 rfl rfl
theorem p_X0_secondsForSheet_0_2 {X : xm_X} {P : List xm_M} {d : Nat} {h : xm_H} {l0 : Nat} {l1 : Int32} {l2 : Int32} {v0 : Nat} {n1 : Nat} (q0 : ¬ (l1 < (0 : Int32))) (q1 : X.1[l0]? = some (.inr 0)) (q2 : h.2.2 l0 16 = some v0) (q3 : X.1[v0]? = some (.inl (0, n1))) (q4 : ¬ (Int32.ofNat n1 ≤ l1)) (q5 : l2 < (0 : Int32)) : xm_E X P d co_X0_secondsForSheet 0 [some (.ref l0), some (.int l1), some (.int l2)] [] h (some (.int (0 : Int32))) h := by
  refine xm_E_s r_X0_secondsForSheet_0 rfl rfl ?_
  refine xm_E_s r_X0_secondsForSheet_1 rfl rfl ?_
  refine xm_E_f q0 ?_
  refine xm_E_s r_X0_secondsForSheet_2 rfl rfl ?_
  refine xm_E_s r_X0_secondsForSheet_3 rfl rfl ?_
  refine xm_E_s r_X0_secondsForSheet_4 rfl (xm_T_gr rfl q1 rfl rfl q2) ?_
  refine xm_E_s r_X0_secondsForSheet_5 rfl (xm_T_alen rfl q3 (by decide)) ?_
  refine xm_E_s r_X0_secondsForSheet_6 rfl rfl ?_
  refine xm_E_f q4 ?_
  refine xm_E_s r_X0_secondsForSheet_7 rfl rfl ?_
  refine xm_E_s r_X0_secondsForSheet_8 rfl rfl ?_
  refine xm_E_t q5 ?_
  refine xm_E_s r_X0_secondsForSheet_12 rfl rfl ?_
  exact xm_E_iret r_X0_secondsForSheet_13 rfl rfl
theorem p_X0_secondsForSheet_0_3 {X : xm_X} {P : List xm_M} {d : Nat} {h : xm_H} {l0 : Nat} {l1 : Int32} {l2 : Int32} {v0 : Nat} {n1 : Nat} {v2 : Nat} {n3 : Nat} (q0 : ¬ (l1 < (0 : Int32))) (q1 : X.1[l0]? = some (.inr 0)) (q2 : h.2.2 l0 16 = some v0) (q3 : X.1[v0]? = some (.inl (0, n1))) (q4 : ¬ (Int32.ofNat n1 ≤ l1)) (q5 : ¬ (l2 < (0 : Int32))) (q6 : l2 ≤ (999 : Int32)) (q7 : ¬ (l1 < 0 ∨ n1 ≤ l1.toNatClampNeg)) (q8 : h.2.2 l0 17 = some v2) (q9 : X.1[v2]? = some (.inl (0, n3))) (q10 : ¬ (l1 < 0 ∨ n3 ≤ l1.toNatClampNeg)) (q11 : ¬ (l2 + (1 : Int32)) = 0) : xm_E X P d co_X0_secondsForSheet 0 [some (.ref l0), some (.int l1), some (.int l2)] [] h (some (.int ((h.1 v0 l1.toNatClampNeg) + ((h.1 v2 l1.toNatClampNeg) / (l2 + (1 : Int32)))))) h := by
  refine xm_E_s r_X0_secondsForSheet_0 rfl rfl ?_
  refine xm_E_s r_X0_secondsForSheet_1 rfl rfl ?_
  refine xm_E_f q0 ?_
  refine xm_E_s r_X0_secondsForSheet_2 rfl rfl ?_
  refine xm_E_s r_X0_secondsForSheet_3 rfl rfl ?_
  refine xm_E_s r_X0_secondsForSheet_4 rfl (xm_T_gr rfl q1 rfl rfl q2) ?_
  refine xm_E_s r_X0_secondsForSheet_5 rfl (xm_T_alen rfl q3 (by decide)) ?_
  refine xm_E_s r_X0_secondsForSheet_6 rfl rfl ?_
  refine xm_E_f q4 ?_
  refine xm_E_s r_X0_secondsForSheet_7 rfl rfl ?_
  refine xm_E_s r_X0_secondsForSheet_8 rfl rfl ?_
  refine xm_E_f q5 ?_
  refine xm_E_s r_X0_secondsForSheet_9 rfl rfl ?_
  refine xm_E_s r_X0_secondsForSheet_10 rfl rfl ?_
  refine xm_E_s r_X0_secondsForSheet_11 rfl rfl ?_
  refine xm_E_t q6 ?_
  refine xm_E_s r_X0_secondsForSheet_14 rfl rfl ?_
  refine xm_E_s r_X0_secondsForSheet_15 rfl (xm_T_gr rfl q1 rfl rfl q2) ?_
  refine xm_E_s r_X0_secondsForSheet_16 rfl rfl ?_
  refine xm_E_s r_X0_secondsForSheet_17 rfl (xm_T_iald rfl q3 (by decide) q7) ?_
  refine xm_E_s r_X0_secondsForSheet_18 rfl rfl ?_
  refine xm_E_s r_X0_secondsForSheet_19 rfl (xm_T_gr rfl q1 rfl rfl q8) ?_
  refine xm_E_s r_X0_secondsForSheet_20 rfl rfl ?_
  refine xm_E_s r_X0_secondsForSheet_21 rfl (xm_T_iald rfl q9 (by decide) q10) ?_
  refine xm_E_s r_X0_secondsForSheet_22 rfl rfl ?_
  refine xm_E_s r_X0_secondsForSheet_23 rfl rfl ?_
  refine xm_E_s r_X0_secondsForSheet_24 rfl rfl ?_
  refine xm_E_s r_X0_secondsForSheet_25 rfl (xm_T_idiv rfl q11) ?_
  refine xm_E_s r_X0_secondsForSheet_26 rfl rfl ?_
  exact xm_E_iret r_X0_secondsForSheet_27 rfl rfl
theorem p_X0_secondsForSheet_0_4 {X : xm_X} {P : List xm_M} {d : Nat} {h : xm_H} {l0 : Nat} {l1 : Int32} {l2 : Int32} {v0 : Nat} {n1 : Nat} (q0 : ¬ (l1 < (0 : Int32))) (q1 : X.1[l0]? = some (.inr 0)) (q2 : h.2.2 l0 16 = some v0) (q3 : X.1[v0]? = some (.inl (0, n1))) (q4 : ¬ (Int32.ofNat n1 ≤ l1)) (q5 : ¬ (l2 < (0 : Int32))) (q6 : ¬ (l2 ≤ (999 : Int32))) : xm_E X P d co_X0_secondsForSheet 0 [some (.ref l0), some (.int l1), some (.int l2)] [] h (some (.int (0 : Int32))) h := by
  refine xm_E_s r_X0_secondsForSheet_0 rfl rfl ?_
  refine xm_E_s r_X0_secondsForSheet_1 rfl rfl ?_
  refine xm_E_f q0 ?_
  refine xm_E_s r_X0_secondsForSheet_2 rfl rfl ?_
  refine xm_E_s r_X0_secondsForSheet_3 rfl rfl ?_
  refine xm_E_s r_X0_secondsForSheet_4 rfl (xm_T_gr rfl q1 rfl rfl q2) ?_
  refine xm_E_s r_X0_secondsForSheet_5 rfl (xm_T_alen rfl q3 (by decide)) ?_
  refine xm_E_s r_X0_secondsForSheet_6 rfl rfl ?_
  refine xm_E_f q4 ?_
  refine xm_E_s r_X0_secondsForSheet_7 rfl rfl ?_
  refine xm_E_s r_X0_secondsForSheet_8 rfl rfl ?_
  refine xm_E_f q5 ?_
  refine xm_E_s r_X0_secondsForSheet_9 rfl rfl ?_
  refine xm_E_s r_X0_secondsForSheet_10 rfl rfl ?_
  refine xm_E_s r_X0_secondsForSheet_11 rfl rfl ?_
  refine xm_E_f q6 ?_
  refine xm_E_s r_X0_secondsForSheet_12 rfl rfl ?_
  exact xm_E_iret r_X0_secondsForSheet_13 rfl rfl
theorem r_X4_leastSeconds_0 : co_X4_leastSeconds[0]? = some ((0, .aload_n 1, 0, 0, 0, 0, 0, 0, []) : xm_I) := rfl
theorem r_X4_leastSeconds_1 : co_X4_leastSeconds[1]? = some ((1, .getfield 24, 242, 0, 11, 0, 0, 0, []) : xm_I) := rfl
theorem r_X4_leastSeconds_2 : co_X4_leastSeconds[2]? = some ((4, .ifCond .ne 5, 0, 0, 5, 0, 0, 0, []) : xm_I) := rfl
theorem r_X4_leastSeconds_3 : co_X4_leastSeconds[3]? = some ((7, .iconst 0, 0, 0, 0, 0, 0, 0, []) : xm_I) := rfl
theorem r_X4_leastSeconds_4 : co_X4_leastSeconds[4]? = some ((8, .ireturn, 0, 0, 0, 0, 0, 0, []) : xm_I) := rfl
theorem r_X4_leastSeconds_5 : co_X4_leastSeconds[5]? = some ((9, .aload_n 1, 0, 0, 0, 0, 0, 0, []) : xm_I) := rfl
theorem r_X4_leastSeconds_6 : co_X4_leastSeconds[6]? = some ((10, .getfield 30, 238, 0, 10, 0, 0, 0, []) : xm_I) := rfl
theorem r_X4_leastSeconds_7 : co_X4_leastSeconds[7]? = some ((13, .ifCond .ne 5, 0, 0, 10, 0, 0, 0, []) : xm_I) := rfl
theorem r_X4_leastSeconds_8 : co_X4_leastSeconds[8]? = some ((16, .iconst (-1), 0, 0, 0, 0, (-1), 0, []) : xm_I) := rfl
theorem r_X4_leastSeconds_9 : co_X4_leastSeconds[9]? = some ((17, .ireturn, 0, 0, 0, 0, 0, 0, []) : xm_I) := rfl
theorem r_X4_leastSeconds_10 : co_X4_leastSeconds[10]? = some ((18, .iconst 0, 0, 0, 0, 0, 0, 0, []) : xm_I) := rfl
theorem r_X4_leastSeconds_11 : co_X4_leastSeconds[11]? = some ((19, .istore_n 3, 0, 0, 0, 0, 0, 0, []) : xm_I) := rfl
theorem r_X4_leastSeconds_12 : co_X4_leastSeconds[12]? = some ((20, .iload_n 3, 0, 0, 0, 0, 0, 0, []) : xm_I) := rfl
theorem r_X4_leastSeconds_13 : co_X4_leastSeconds[13]? = some ((21, .aload_n 1, 0, 0, 0, 0, 0, 0, []) : xm_I) := rfl
theorem r_X4_leastSeconds_14 : co_X4_leastSeconds[14]? = some ((22, .getfield 30, 238, 0, 10, 0, 0, 0, []) : xm_I) := rfl
theorem r_X4_leastSeconds_15 : co_X4_leastSeconds[15]? = some ((25, .if_icmp .ge 16, 0, 0, 23, 0, 0, 0, []) : xm_I) := rfl
theorem r_X4_leastSeconds_16 : co_X4_leastSeconds[16]? = some ((28, .aload_n 0, 0, 0, 0, 0, 0, 0, []) : xm_I) := rfl
theorem r_X4_leastSeconds_17 : co_X4_leastSeconds[17]? = some ((29, .aload_n 1, 0, 0, 0, 0, 0, 0, []) : xm_I) := rfl
theorem r_X4_leastSeconds_18 : co_X4_leastSeconds[18]? = some ((30, .iload_n 3, 0, 0, 0, 0, 0, 0, []) : xm_I) := rfl
theorem r_X4_leastSeconds_19 : co_X4_leastSeconds[19]? = some ((31, .iload_n 3, 0, 0, 0, 0, 0, 0, []) : xm_I) := rfl
theorem r_X4_leastSeconds_20 : co_X4_leastSeconds[20]? = some ((32, .invokevirtual 33, 1240, 161, 4, 4, 0, 0, []) : xm_I) := rfl
theorem r_X4_leastSeconds_21 : co_X4_leastSeconds[21]? = some ((35, .iinc 3 1, 0, 0, 0, 0, 1, 0, []) : xm_I) := rfl
theorem r_X4_leastSeconds_22 : co_X4_leastSeconds[22]? = some ((38, .goto (-18), 0, 0, 12, 0, 0, 0, []) : xm_I) := rfl
theorem r_X4_leastSeconds_23 : co_X4_leastSeconds[23]? = some ((41, .aload_n 0, 0, 0, 0, 0, 0, 0, []) : xm_I) := rfl
theorem r_X4_leastSeconds_24 : co_X4_leastSeconds[24]? = some ((42, .aload_n 1, 0, 0, 0, 0, 0, 0, []) : xm_I) := rfl
theorem r_X4_leastSeconds_25 : co_X4_leastSeconds[25]? = some ((43, .getfield 30, 238, 0, 10, 0, 0, 0, []) : xm_I) := rfl
theorem r_X4_leastSeconds_26 : co_X4_leastSeconds[26]? = some ((46, .putfield 37, 428, 4, 4, 0, 0, 0, []) : xm_I) := rfl
theorem r_X4_leastSeconds_27 : co_X4_leastSeconds[27]? = some ((49, .iload_n 2, 0, 0, 0, 0, 0, 0, []) : xm_I) := rfl
theorem r_X4_leastSeconds_28 : co_X4_leastSeconds[28]? = some ((50, .iconst (-1), 0, 0, 0, 0, (-1), 0, []) : xm_I) := rfl
theorem r_X4_leastSeconds_29 : co_X4_leastSeconds[29]? = some ((51, .if_icmp .eq 23, 0, 0, 42, 0, 0, 0, []) : xm_I) := rfl
theorem r_X4_leastSeconds_30 : co_X4_leastSeconds[30]? = some ((54, .aload_n 0, 0, 0, 0, 0, 0, 0, []) : xm_I) := rfl
theorem r_X4_leastSeconds_31 : co_X4_leastSeconds[31]? = some ((55, .aload_n 1, 0, 0, 0, 0, 0, 0, []) : xm_I) := rfl
theorem r_X4_leastSeconds_32 : co_X4_leastSeconds[32]? = some ((56, .aload_n 0, 0, 0, 0, 0, 0, 0, []) : xm_I) := rfl
theorem r_X4_leastSeconds_33 : co_X4_leastSeconds[33]? = some ((57, .getfield 37, 428, 4, 4, 0, 0, 0, []) : xm_I) := rfl
theorem r_X4_leastSeconds_34 : co_X4_leastSeconds[34]? = some ((60, .iload_n 2, 0, 0, 0, 0, 0, 0, []) : xm_I) := rfl
theorem r_X4_leastSeconds_35 : co_X4_leastSeconds[35]? = some ((61, .invokevirtual 33, 1240, 161, 4, 4, 0, 0, []) : xm_I) := rfl
theorem r_X4_leastSeconds_36 : co_X4_leastSeconds[36]? = some ((64, .aload_n 0, 0, 0, 0, 0, 0, 0, []) : xm_I) := rfl
theorem r_X4_leastSeconds_37 : co_X4_leastSeconds[37]? = some ((65, .dup, 0, 0, 0, 0, 0, 0, []) : xm_I) := rfl
theorem r_X4_leastSeconds_38 : co_X4_leastSeconds[38]? = some ((66, .getfield 37, 428, 4, 4, 0, 0, 0, []) : xm_I) := rfl
theorem r_X4_leastSeconds_39 : co_X4_leastSeconds[39]? = some ((69, .iconst 1, 0, 0, 0, 0, 1, 0, []) : xm_I) := rfl
theorem r_X4_leastSeconds_40 : co_X4_leastSeconds[40]? = some ((70, .iadd, 0, 0, 0, 0, 0, 0, []) : xm_I) := rfl
theorem r_X4_leastSeconds_41 : co_X4_leastSeconds[41]? = some ((71, .putfield 37, 428, 4, 4, 0, 0, 0, []) : xm_I) := rfl
theorem r_X4_leastSeconds_42 : co_X4_leastSeconds[42]? = some ((74, .aload_n 0, 0, 0, 0, 0, 0, 0, []) : xm_I) := rfl
theorem r_X4_leastSeconds_43 : co_X4_leastSeconds[43]? = some ((75, .getfield 15, 425, 4, 1, 2, 0, 0, []) : xm_I) := rfl
theorem r_X4_leastSeconds_44 : co_X4_leastSeconds[44]? = some ((78, .iconst 0, 0, 0, 0, 0, 0, 0, []) : xm_I) := rfl
theorem r_X4_leastSeconds_45 : co_X4_leastSeconds[45]? = some ((79, .invokestatic 38, 1245, 6, 2, 0, 0, 0, []) : xm_I) := rfl
theorem r_X4_leastSeconds_46 : co_X4_leastSeconds[46]? = some ((82, .aload_n 0, 0, 0, 0, 0, 0, 0, []) : xm_I) := rfl
theorem r_X4_leastSeconds_47 : co_X4_leastSeconds[47]? = some ((83, .ldc 44, 1246, 0, 0, 0, 2147483647, 0, []) : xm_I) := rfl
theorem r_X4_leastSeconds_48 : co_X4_leastSeconds[48]? = some ((85, .putfield 45, 429, 4, 5, 0, 0, 0, []) : xm_I) := rfl
theorem r_X4_leastSeconds_49 : co_X4_leastSeconds[49]? = some ((88, .aload_n 0, 0, 0, 0, 0, 0, 0, []) : xm_I) := rfl
theorem r_X4_leastSeconds_50 : co_X4_leastSeconds[50]? = some ((89, .aload_n 1, 0, 0, 0, 0, 0, 0, []) : xm_I) := rfl
theorem r_X4_leastSeconds_51 : co_X4_leastSeconds[51]? = some ((90, .iconst 0, 0, 0, 0, 0, 0, 0, []) : xm_I) := rfl
theorem r_X4_leastSeconds_52 : co_X4_leastSeconds[52]? = some ((91, .iconst 0, 0, 0, 0, 0, 0, 0, []) : xm_I) := rfl
theorem r_X4_leastSeconds_53 : co_X4_leastSeconds[53]? = some ((92, .invokevirtual 48, 1247, 162, 4, 4, 0, 0, []) : xm_I) := rfl
theorem r_X4_leastSeconds_54 : co_X4_leastSeconds[54]? = some ((95, .aload_n 0, 0, 0, 0, 0, 0, 0, []) : xm_I) := rfl
theorem r_X4_leastSeconds_55 : co_X4_leastSeconds[55]? = some ((96, .getfield 45, 429, 4, 5, 0, 0, 0, []) : xm_I) := rfl
theorem r_X4_leastSeconds_56 : co_X4_leastSeconds[56]? = some ((99, .ireturn, 0, 0, 0, 0, 0, 0, []) : xm_I) := rfl
theorem p_X4_leastSeconds_0_0 {X : xm_X} {P : List xm_M} {d : Nat} {h : xm_H} {l0 : Nat} {l1 : Nat} {l2 : Int32} (q0 : X.1[l1]? = some (.inr 0)) (q1 : h.1 l1 11 = (0 : Int32)) : xm_E X P d co_X4_leastSeconds 0 [some (.ref l0), some (.ref l1), some (.int l2), none] [] h (some (.int (0 : Int32))) h := by
  refine xm_E_s r_X4_leastSeconds_0 rfl rfl ?_
  refine xm_E_s r_X4_leastSeconds_1 rfl (xm_T_gi rfl q0 rfl (Or.inl rfl)) ?_
  refine xm_E_s r_X4_leastSeconds_2 rfl rfl ?_
  refine xm_E_t q1 ?_
  refine xm_E_s r_X4_leastSeconds_3 rfl rfl ?_
  exact xm_E_iret r_X4_leastSeconds_4 rfl rfl
theorem p_X4_leastSeconds_0_1 {X : xm_X} {P : List xm_M} {d : Nat} {h : xm_H} {l0 : Nat} {l1 : Nat} {l2 : Int32} (q0 : X.1[l1]? = some (.inr 0)) (q1 : ¬ (h.1 l1 11 = (0 : Int32))) (q2 : h.1 l1 10 = (0 : Int32)) : xm_E X P d co_X4_leastSeconds 0 [some (.ref l0), some (.ref l1), some (.int l2), none] [] h (some (.int (-1 : Int32))) h := by
  refine xm_E_s r_X4_leastSeconds_0 rfl rfl ?_
  refine xm_E_s r_X4_leastSeconds_1 rfl (xm_T_gi rfl q0 rfl (Or.inl rfl)) ?_
  refine xm_E_s r_X4_leastSeconds_2 rfl rfl ?_
  refine xm_E_f q1 ?_
  refine xm_E_s r_X4_leastSeconds_5 rfl rfl ?_
  refine xm_E_s r_X4_leastSeconds_6 rfl (xm_T_gi rfl q0 rfl (Or.inl rfl)) ?_
  refine xm_E_s r_X4_leastSeconds_7 rfl rfl ?_
  refine xm_E_t q2 ?_
  refine xm_E_s r_X4_leastSeconds_8 rfl rfl ?_
  exact xm_E_iret r_X4_leastSeconds_9 rfl rfl
theorem p_X4_leastSeconds_0_2 {X : xm_X} {P : List xm_M} {d : Nat} {h : xm_H} {l0 : Nat} {l1 : Nat} {l2 : Int32} {ro : Option Value} {ho : xm_H} (q0 : X.1[l1]? = some (.inr 0)) (q1 : ¬ (h.1 l1 11 = (0 : Int32))) (q2 : ¬ (h.1 l1 10 = (0 : Int32))) (K : xm_E X P d co_X4_leastSeconds 12 [some (.ref l0), some (.ref l1), some (.int l2), some (.int (0 : Int32))] [] h ro ho) : xm_E X P d co_X4_leastSeconds 0 [some (.ref l0), some (.ref l1), some (.int l2), none] [] h ro ho := by
  refine xm_E_s r_X4_leastSeconds_0 rfl rfl ?_
  refine xm_E_s r_X4_leastSeconds_1 rfl (xm_T_gi rfl q0 rfl (Or.inl rfl)) ?_
  refine xm_E_s r_X4_leastSeconds_2 rfl rfl ?_
  refine xm_E_f q1 ?_
  refine xm_E_s r_X4_leastSeconds_5 rfl rfl ?_
  refine xm_E_s r_X4_leastSeconds_6 rfl (xm_T_gi rfl q0 rfl (Or.inl rfl)) ?_
  refine xm_E_s r_X4_leastSeconds_7 rfl rfl ?_
  refine xm_E_f q2 ?_
  refine xm_E_s r_X4_leastSeconds_10 rfl rfl ?_
  refine xm_E_s (ls1 := [some (.ref l0), some (.ref l1), some (.int l2), some (.int (0 : Int32))]) r_X4_leastSeconds_11 rfl rfl ?_
  exact K
theorem p_X4_leastSeconds_12_0 {X : xm_X} {P : List xm_M} {d : Nat} {h : xm_H} {l0 : Nat} {l1 : Nat} {l2 : Int32} {l3 : Int32} {v0 : Nat} {h1 : xm_H} {h2 : xm_H} (q0 : X.1[l1]? = some (.inr 0)) (q1 : h.1 l1 10 ≤ l3) (q2 : X.1[l0]? = some (.inr 4)) (q3 : l2 = (-1 : Int32)) (q4 : (xm_si h l0 4 (h.1 l1 10)).2.2 l0 1 = some v0) (q5 : xm_V X P d 6 [.ref v0, .int (0 : Int32)] (xm_si h l0 4 (h.1 l1 10)) none h1) (q6 : xm_V X P d 162 [.ref l0, .ref l1, .int (0 : Int32), .int (0 : Int32)] (xm_si h1 l0 5 (2147483647 : Int32)) none h2) : xm_E X P d co_X4_leastSeconds 12 [some (.ref l0), some (.ref l1), some (.int l2), some (.int l3)] [] h (some (.int (h2.1 l0 5))) h2 := by
  refine xm_E_s r_X4_leastSeconds_12 rfl rfl ?_
  refine xm_E_s r_X4_leastSeconds_13 rfl rfl ?_
  refine xm_E_s r_X4_leastSeconds_14 rfl (xm_T_gi rfl q0 rfl (Or.inl rfl)) ?_
  refine xm_E_s r_X4_leastSeconds_15 rfl rfl ?_
  refine xm_E_t q1 ?_
  refine xm_E_s r_X4_leastSeconds_23 rfl rfl ?_
  refine xm_E_s r_X4_leastSeconds_24 rfl rfl ?_
  refine xm_E_s r_X4_leastSeconds_25 rfl (xm_T_gi rfl q0 rfl (Or.inl rfl)) ?_
  refine xm_E_s r_X4_leastSeconds_26 rfl (xm_T_pi rfl q2 rfl rfl) ?_
  refine xm_E_s r_X4_leastSeconds_27 rfl rfl ?_
  refine xm_E_s r_X4_leastSeconds_28 rfl rfl ?_
  refine xm_E_s r_X4_leastSeconds_29 rfl rfl ?_
  refine xm_E_t q3 ?_
  refine xm_E_s r_X4_leastSeconds_42 rfl rfl ?_
  refine xm_E_s r_X4_leastSeconds_43 rfl (xm_T_gr rfl q2 rfl rfl q4) ?_
  refine xm_E_s r_X4_leastSeconds_44 rfl rfl ?_
  refine xm_E_cs [.ref v0, .int (0 : Int32)] [] r_X4_leastSeconds_45 rfl rfl rfl (Nat.le_of_ble_eq_true rfl) rfl q5 ?_
  refine xm_E_s r_X4_leastSeconds_46 rfl rfl ?_
  refine xm_E_s r_X4_leastSeconds_47 rfl rfl ?_
  refine xm_E_s r_X4_leastSeconds_48 rfl (xm_T_pi rfl q2 rfl rfl) ?_
  refine xm_E_s r_X4_leastSeconds_49 rfl rfl ?_
  refine xm_E_s r_X4_leastSeconds_50 rfl rfl ?_
  refine xm_E_s r_X4_leastSeconds_51 rfl rfl ?_
  refine xm_E_s r_X4_leastSeconds_52 rfl rfl ?_
  refine xm_E_cv [.ref l0, .ref l1, .int (0 : Int32), .int (0 : Int32)] [] r_X4_leastSeconds_53 rfl rfl (Nat.le_of_ble_eq_true rfl) (xm_rc q2 (by decide)) rfl q6 ?_
  refine xm_E_s r_X4_leastSeconds_54 rfl rfl ?_
  refine xm_E_s r_X4_leastSeconds_55 rfl (xm_T_gi rfl q2 rfl (Or.inl rfl)) ?_
  exact xm_E_iret r_X4_leastSeconds_56 rfl rfl
theorem p_X4_leastSeconds_12_1 {X : xm_X} {P : List xm_M} {d : Nat} {h : xm_H} {l0 : Nat} {l1 : Nat} {l2 : Int32} {l3 : Int32} {h0 : xm_H} {v1 : Nat} {h2 : xm_H} {h3 : xm_H} (q0 : X.1[l1]? = some (.inr 0)) (q1 : h.1 l1 10 ≤ l3) (q2 : X.1[l0]? = some (.inr 4)) (q3 : ¬ (l2 = (-1 : Int32))) (q4 : xm_V X P d 161 [.ref l0, .ref l1, .int ((xm_si h l0 4 (h.1 l1 10)).1 l0 4), .int l2] (xm_si h l0 4 (h.1 l1 10)) none h0) (q5 : (xm_si h0 l0 4 ((h0.1 l0 4) + (1 : Int32))).2.2 l0 1 = some v1) (q6 : xm_V X P d 6 [.ref v1, .int (0 : Int32)] (xm_si h0 l0 4 ((h0.1 l0 4) + (1 : Int32))) none h2) (q7 : xm_V X P d 162 [.ref l0, .ref l1, .int (0 : Int32), .int (0 : Int32)] (xm_si h2 l0 5 (2147483647 : Int32)) none h3) : xm_E X P d co_X4_leastSeconds 12 [some (.ref l0), some (.ref l1), some (.int l2), some (.int l3)] [] h (some (.int (h3.1 l0 5))) h3 := by
  refine xm_E_s r_X4_leastSeconds_12 rfl rfl ?_
  refine xm_E_s r_X4_leastSeconds_13 rfl rfl ?_
  refine xm_E_s r_X4_leastSeconds_14 rfl (xm_T_gi rfl q0 rfl (Or.inl rfl)) ?_
  refine xm_E_s r_X4_leastSeconds_15 rfl rfl ?_
  refine xm_E_t q1 ?_
  refine xm_E_s r_X4_leastSeconds_23 rfl rfl ?_
  refine xm_E_s r_X4_leastSeconds_24 rfl rfl ?_
  refine xm_E_s r_X4_leastSeconds_25 rfl (xm_T_gi rfl q0 rfl (Or.inl rfl)) ?_
  refine xm_E_s r_X4_leastSeconds_26 rfl (xm_T_pi rfl q2 rfl rfl) ?_
  refine xm_E_s r_X4_leastSeconds_27 rfl rfl ?_
  refine xm_E_s r_X4_leastSeconds_28 rfl rfl ?_
  refine xm_E_s r_X4_leastSeconds_29 rfl rfl ?_
  refine xm_E_f q3 ?_
  refine xm_E_s r_X4_leastSeconds_30 rfl rfl ?_
  refine xm_E_s r_X4_leastSeconds_31 rfl rfl ?_
  refine xm_E_s r_X4_leastSeconds_32 rfl rfl ?_
  refine xm_E_s r_X4_leastSeconds_33 rfl (xm_T_gi rfl q2 rfl (Or.inl rfl)) ?_
  refine xm_E_s r_X4_leastSeconds_34 rfl rfl ?_
  refine xm_E_cv [.ref l0, .ref l1, .int ((xm_si h l0 4 (h.1 l1 10)).1 l0 4), .int l2] [] r_X4_leastSeconds_35 rfl rfl (Nat.le_of_ble_eq_true rfl) (xm_rc q2 (by decide)) rfl q4 ?_
  refine xm_E_s r_X4_leastSeconds_36 rfl rfl ?_
  refine xm_E_s r_X4_leastSeconds_37 rfl rfl ?_
  refine xm_E_s r_X4_leastSeconds_38 rfl (xm_T_gi rfl q2 rfl (Or.inl rfl)) ?_
  refine xm_E_s r_X4_leastSeconds_39 rfl rfl ?_
  refine xm_E_s r_X4_leastSeconds_40 rfl rfl ?_
  refine xm_E_s r_X4_leastSeconds_41 rfl (xm_T_pi rfl q2 rfl rfl) ?_
  refine xm_E_s r_X4_leastSeconds_42 rfl rfl ?_
  refine xm_E_s r_X4_leastSeconds_43 rfl (xm_T_gr rfl q2 rfl rfl q5) ?_
  refine xm_E_s r_X4_leastSeconds_44 rfl rfl ?_
  refine xm_E_cs [.ref v1, .int (0 : Int32)] [] r_X4_leastSeconds_45 rfl rfl rfl (Nat.le_of_ble_eq_true rfl) rfl q6 ?_
  refine xm_E_s r_X4_leastSeconds_46 rfl rfl ?_
  refine xm_E_s r_X4_leastSeconds_47 rfl rfl ?_
  refine xm_E_s r_X4_leastSeconds_48 rfl (xm_T_pi rfl q2 rfl rfl) ?_
  refine xm_E_s r_X4_leastSeconds_49 rfl rfl ?_
  refine xm_E_s r_X4_leastSeconds_50 rfl rfl ?_
  refine xm_E_s r_X4_leastSeconds_51 rfl rfl ?_
  refine xm_E_s r_X4_leastSeconds_52 rfl rfl ?_
  refine xm_E_cv [.ref l0, .ref l1, .int (0 : Int32), .int (0 : Int32)] [] r_X4_leastSeconds_53 rfl rfl (Nat.le_of_ble_eq_true rfl) (xm_rc q2 (by decide)) rfl q7 ?_
  refine xm_E_s r_X4_leastSeconds_54 rfl rfl ?_
  refine xm_E_s r_X4_leastSeconds_55 rfl (xm_T_gi rfl q2 rfl (Or.inl rfl)) ?_
  exact xm_E_iret r_X4_leastSeconds_56 rfl rfl
theorem p_X4_leastSeconds_12_2 {X : xm_X} {P : List xm_M} {d : Nat} {h : xm_H} {l0 : Nat} {l1 : Nat} {l2 : Int32} {l3 : Int32} {h0 : xm_H} {ro : Option Value} {ho : xm_H} (q0 : X.1[l1]? = some (.inr 0)) (q1 : ¬ (h.1 l1 10 ≤ l3)) (q2 : xm_V X P d 161 [.ref l0, .ref l1, .int l3, .int l3] h none h0) (q3 : X.1[l0]? = some (.inr 4)) (K : xm_E X P d co_X4_leastSeconds 12 [some (.ref l0), some (.ref l1), some (.int l2), some (.int (l3 + (1 : Int32)))] [] h0 ro ho) : xm_E X P d co_X4_leastSeconds 12 [some (.ref l0), some (.ref l1), some (.int l2), some (.int l3)] [] h ro ho := by
  refine xm_E_s r_X4_leastSeconds_12 rfl rfl ?_
  refine xm_E_s r_X4_leastSeconds_13 rfl rfl ?_
  refine xm_E_s r_X4_leastSeconds_14 rfl (xm_T_gi rfl q0 rfl (Or.inl rfl)) ?_
  refine xm_E_s r_X4_leastSeconds_15 rfl rfl ?_
  refine xm_E_f q1 ?_
  refine xm_E_s r_X4_leastSeconds_16 rfl rfl ?_
  refine xm_E_s r_X4_leastSeconds_17 rfl rfl ?_
  refine xm_E_s r_X4_leastSeconds_18 rfl rfl ?_
  refine xm_E_s r_X4_leastSeconds_19 rfl rfl ?_
  refine xm_E_cv [.ref l0, .ref l1, .int l3, .int l3] [] r_X4_leastSeconds_20 rfl rfl (Nat.le_of_ble_eq_true rfl) (xm_rc q3 (by decide)) rfl q2 ?_
  refine xm_E_s (ls1 := [some (.ref l0), some (.ref l1), some (.int l2), some (.int (l3 + (1 : Int32)))]) r_X4_leastSeconds_21 rfl rfl ?_
  refine xm_E_s r_X4_leastSeconds_22 rfl rfl ?_
  exact K
theorem r_X4_fillTimes_0 : co_X4_fillTimes[0]? = some ((0, .iload_n 2, 0, 0, 0, 0, 0, 0, []) : xm_I) := rfl
theorem r_X4_fillTimes_1 : co_X4_fillTimes[1]? = some ((1, .ifCond .lt 8, 0, 0, 5, 0, 0, 0, []) : xm_I) := rfl
theorem r_X4_fillTimes_2 : co_X4_fillTimes[2]? = some ((4, .iload_n 2, 0, 0, 0, 0, 0, 0, []) : xm_I) := rfl
theorem r_X4_fillTimes_3 : co_X4_fillTimes[3]? = some ((5, .iconst 5, 0, 0, 0, 0, 5, 0, []) : xm_I) := rfl
theorem r_X4_fillTimes_4 : co_X4_fillTimes[4]? = some ((6, .if_icmp .lt 4, 0, 0, 6, 0, 0, 0, []) : xm_I) := rfl
theorem r_X4_fillTimes_5 : co_X4_fillTimes[5]? = some ((9, .return_, 0, 0, 0, 0, 0, 0, []) : xm_I) := rfl
theorem r_X4_fillTimes_6 : co_X4_fillTimes[6]? = some ((10, .iconst 0, 0, 0, 0, 0, 0, 0, []) : xm_I) := rfl
theorem r_X4_fillTimes_7 : co_X4_fillTimes[7]? = some ((11, .istore 4, 0, 0, 0, 0, 0, 0, []) : xm_I) := rfl
theorem r_X4_fillTimes_8 : co_X4_fillTimes[8]? = some ((13, .iconst 0, 0, 0, 0, 0, 0, 0, []) : xm_I) := rfl
theorem r_X4_fillTimes_9 : co_X4_fillTimes[9]? = some ((14, .istore 5, 0, 0, 0, 0, 0, 0, []) : xm_I) := rfl
theorem r_X4_fillTimes_10 : co_X4_fillTimes[10]? = some ((16, .iload 5, 0, 0, 0, 0, 0, 0, []) : xm_I) := rfl
theorem r_X4_fillTimes_11 : co_X4_fillTimes[11]? = some ((18, .sipush 361, 0, 0, 0, 0, 361, 0, []) : xm_I) := rfl
theorem r_X4_fillTimes_12 : co_X4_fillTimes[12]? = some ((21, .if_icmp .ge 36, 0, 0, 31, 0, 0, 0, []) : xm_I) := rfl
theorem r_X4_fillTimes_13 : co_X4_fillTimes[13]? = some ((24, .aload_n 0, 0, 0, 0, 0, 0, 0, []) : xm_I) := rfl
theorem r_X4_fillTimes_14 : co_X4_fillTimes[14]? = some ((25, .getfield 11, 424, 4, 0, 2, 0, 0, []) : xm_I) := rfl
theorem r_X4_fillTimes_15 : co_X4_fillTimes[15]? = some ((28, .iload_n 2, 0, 0, 0, 0, 0, 0, []) : xm_I) := rfl
theorem r_X4_fillTimes_16 : co_X4_fillTimes[16]? = some ((29, .sipush 361, 0, 0, 0, 0, 361, 0, []) : xm_I) := rfl
theorem r_X4_fillTimes_17 : co_X4_fillTimes[17]? = some ((32, .imul, 0, 0, 0, 0, 0, 0, []) : xm_I) := rfl
theorem r_X4_fillTimes_18 : co_X4_fillTimes[18]? = some ((33, .iload 5, 0, 0, 0, 0, 0, 0, []) : xm_I) := rfl
theorem r_X4_fillTimes_19 : co_X4_fillTimes[19]? = some ((35, .iadd, 0, 0, 0, 0, 0, 0, []) : xm_I) := rfl
theorem r_X4_fillTimes_20 : co_X4_fillTimes[20]? = some ((36, .iload 4, 0, 0, 0, 0, 0, 0, []) : xm_I) := rfl
theorem r_X4_fillTimes_21 : co_X4_fillTimes[21]? = some ((38, .iastore, 0, 0, 0, 0, 0, 0, []) : xm_I) := rfl
theorem r_X4_fillTimes_22 : co_X4_fillTimes[22]? = some ((39, .iload 4, 0, 0, 0, 0, 0, 0, []) : xm_I) := rfl
theorem r_X4_fillTimes_23 : co_X4_fillTimes[23]? = some ((41, .aload_n 1, 0, 0, 0, 0, 0, 0, []) : xm_I) := rfl
theorem r_X4_fillTimes_24 : co_X4_fillTimes[24]? = some ((42, .iload_n 3, 0, 0, 0, 0, 0, 0, []) : xm_I) := rfl
theorem r_X4_fillTimes_25 : co_X4_fillTimes[25]? = some ((43, .iload 5, 0, 0, 0, 0, 0, 0, []) : xm_I) := rfl
theorem r_X4_fillTimes_26 : co_X4_fillTimes[26]? = some ((45, .invokevirtual 51, 1244, 156, 3, 0, 0, 0, []) : xm_I) := rfl
theorem r_X4_fillTimes_27 : co_X4_fillTimes[27]? = some ((48, .iadd, 0, 0, 0, 0, 0, 0, []) : xm_I) := rfl
theorem r_X4_fillTimes_28 : co_X4_fillTimes[28]? = some ((49, .istore 4, 0, 0, 0, 0, 0, 0, []) : xm_I) := rfl
theorem r_X4_fillTimes_29 : co_X4_fillTimes[29]? = some ((51, .iinc 5 1, 0, 0, 0, 0, 1, 0, []) : xm_I) := rfl
theorem r_X4_fillTimes_30 : co_X4_fillTimes[30]? = some ((54, .goto (-38), 0, 0, 10, 0, 0, 0, []) : xm_I) := rfl
theorem r_X4_fillTimes_31 : co_X4_fillTimes[31]? = some ((57, .return_, 0, 0, 0, 0, 0, 0, []) : xm_I) := rfl
theorem p_X4_fillTimes_0_0 {X : xm_X} {P : List xm_M} {d : Nat} {h : xm_H} {l0 : Nat} {l1 : Nat} {l2 : Int32} {l3 : Int32} (q0 : l2 < (0 : Int32)) : xm_E X P d co_X4_fillTimes 0 [some (.ref l0), some (.ref l1), some (.int l2), some (.int l3), none, none] [] h none h := by
  refine xm_E_s r_X4_fillTimes_0 rfl rfl ?_
  refine xm_E_s r_X4_fillTimes_1 rfl rfl ?_
  refine xm_E_t q0 ?_
  exact xm_E_ret r_X4_fillTimes_5 rfl
theorem p_X4_fillTimes_0_1 {X : xm_X} {P : List xm_M} {d : Nat} {h : xm_H} {l0 : Nat} {l1 : Nat} {l2 : Int32} {l3 : Int32} {ro : Option Value} {ho : xm_H} (q0 : ¬ (l2 < (0 : Int32))) (q1 : l2 < (5 : Int32)) (K : xm_E X P d co_X4_fillTimes 10 [some (.ref l0), some (.ref l1), some (.int l2), some (.int l3), some (.int (0 : Int32)), some (.int (0 : Int32))] [] h ro ho) : xm_E X P d co_X4_fillTimes 0 [some (.ref l0), some (.ref l1), some (.int l2), some (.int l3), none, none] [] h ro ho := by
  refine xm_E_s r_X4_fillTimes_0 rfl rfl ?_
  refine xm_E_s r_X4_fillTimes_1 rfl rfl ?_
  refine xm_E_f q0 ?_
  refine xm_E_s r_X4_fillTimes_2 rfl rfl ?_
  refine xm_E_s r_X4_fillTimes_3 rfl rfl ?_
  refine xm_E_s r_X4_fillTimes_4 rfl rfl ?_
  refine xm_E_t q1 ?_
  refine xm_E_s r_X4_fillTimes_6 rfl rfl ?_
  refine xm_E_s (ls1 := [some (.ref l0), some (.ref l1), some (.int l2), some (.int l3), some (.int (0 : Int32)), none]) r_X4_fillTimes_7 rfl rfl ?_
  refine xm_E_s r_X4_fillTimes_8 rfl rfl ?_
  refine xm_E_s (ls1 := [some (.ref l0), some (.ref l1), some (.int l2), some (.int l3), some (.int (0 : Int32)), some (.int (0 : Int32))]) r_X4_fillTimes_9 rfl rfl ?_
  exact K
theorem p_X4_fillTimes_0_2 {X : xm_X} {P : List xm_M} {d : Nat} {h : xm_H} {l0 : Nat} {l1 : Nat} {l2 : Int32} {l3 : Int32} (q0 : ¬ (l2 < (0 : Int32))) (q1 : ¬ (l2 < (5 : Int32))) : xm_E X P d co_X4_fillTimes 0 [some (.ref l0), some (.ref l1), some (.int l2), some (.int l3), none, none] [] h none h := by
  refine xm_E_s r_X4_fillTimes_0 rfl rfl ?_
  refine xm_E_s r_X4_fillTimes_1 rfl rfl ?_
  refine xm_E_f q0 ?_
  refine xm_E_s r_X4_fillTimes_2 rfl rfl ?_
  refine xm_E_s r_X4_fillTimes_3 rfl rfl ?_
  refine xm_E_s r_X4_fillTimes_4 rfl rfl ?_
  refine xm_E_f q1 ?_
  exact xm_E_ret r_X4_fillTimes_5 rfl
theorem p_X4_fillTimes_10_0 {X : xm_X} {P : List xm_M} {d : Nat} {h : xm_H} {l0 : Nat} {l1 : Nat} {l2 : Int32} {l3 : Int32} {l4 : Int32} {l5 : Int32} (q0 : (361 : Int32) ≤ l5) : xm_E X P d co_X4_fillTimes 10 [some (.ref l0), some (.ref l1), some (.int l2), some (.int l3), some (.int l4), some (.int l5)] [] h none h := by
  refine xm_E_s r_X4_fillTimes_10 rfl rfl ?_
  refine xm_E_s r_X4_fillTimes_11 rfl rfl ?_
  refine xm_E_s r_X4_fillTimes_12 rfl rfl ?_
  refine xm_E_t q0 ?_
  exact xm_E_ret r_X4_fillTimes_31 rfl
theorem p_X4_fillTimes_10_1 {X : xm_X} {P : List xm_M} {d : Nat} {h : xm_H} {l0 : Nat} {l1 : Nat} {l2 : Int32} {l3 : Int32} {l4 : Int32} {l5 : Int32} {v0 : Nat} {n1 : Nat} {h2 : xm_H} {r2 : Int32} {ro : Option Value} {ho : xm_H} (q0 : ¬ ((361 : Int32) ≤ l5)) (q1 : X.1[l0]? = some (.inr 4)) (q2 : h.2.2 l0 0 = some v0) (q3 : X.1[v0]? = some (.inl (0, n1))) (q4 : ¬ ((l2 * (361 : Int32)) + l5 < 0 ∨ n1 ≤ ((l2 * (361 : Int32)) + l5).toNatClampNeg)) (q5 : xm_V X P d 156 [.ref l1, .int l3, .int l5] (xm_si h v0 (((l2 * (361 : Int32)) + l5).toNatClampNeg) l4) (some (.int r2)) h2) (q6 : X.1[l1]? = some (.inr 0)) (K : xm_E X P d co_X4_fillTimes 10 [some (.ref l0), some (.ref l1), some (.int l2), some (.int l3), some (.int (l4 + r2)), some (.int (l5 + (1 : Int32)))] [] h2 ro ho) : xm_E X P d co_X4_fillTimes 10 [some (.ref l0), some (.ref l1), some (.int l2), some (.int l3), some (.int l4), some (.int l5)] [] h ro ho := by
  refine xm_E_s r_X4_fillTimes_10 rfl rfl ?_
  refine xm_E_s r_X4_fillTimes_11 rfl rfl ?_
  refine xm_E_s r_X4_fillTimes_12 rfl rfl ?_
  refine xm_E_f q0 ?_
  refine xm_E_s r_X4_fillTimes_13 rfl rfl ?_
  refine xm_E_s r_X4_fillTimes_14 rfl (xm_T_gr rfl q1 rfl rfl q2) ?_
  refine xm_E_s r_X4_fillTimes_15 rfl rfl ?_
  refine xm_E_s r_X4_fillTimes_16 rfl rfl ?_
  refine xm_E_s r_X4_fillTimes_17 rfl rfl ?_
  refine xm_E_s r_X4_fillTimes_18 rfl rfl ?_
  refine xm_E_s r_X4_fillTimes_19 rfl rfl ?_
  refine xm_E_s r_X4_fillTimes_20 rfl rfl ?_
  refine xm_E_s r_X4_fillTimes_21 rfl (xm_T_asi rfl q3 q4) ?_
  refine xm_E_s r_X4_fillTimes_22 rfl rfl ?_
  refine xm_E_s r_X4_fillTimes_23 rfl rfl ?_
  refine xm_E_s r_X4_fillTimes_24 rfl rfl ?_
  refine xm_E_s r_X4_fillTimes_25 rfl rfl ?_
  refine xm_E_cv [.ref l1, .int l3, .int l5] [.int l4] r_X4_fillTimes_26 rfl rfl (Nat.le_of_ble_eq_true rfl) (xm_rc q6 (by decide)) rfl q5 ?_
  refine xm_E_s r_X4_fillTimes_27 rfl rfl ?_
  refine xm_E_s (ls1 := [some (.ref l0), some (.ref l1), some (.int l2), some (.int l3), some (.int (l4 + r2)), some (.int l5)]) r_X4_fillTimes_28 rfl rfl ?_
  refine xm_E_s (ls1 := [some (.ref l0), some (.ref l1), some (.int l2), some (.int l3), some (.int (l4 + r2)), some (.int (l5 + (1 : Int32)))]) r_X4_fillTimes_29 rfl rfl ?_
  refine xm_E_s r_X4_fillTimes_30 rfl rfl ?_
  exact K
theorem r_X4_share_0 : co_X4_share[0]? = some ((0, .iload_n 2, 0, 0, 0, 0, 0, 0, []) : xm_I) := rfl
theorem r_X4_share_1 : co_X4_share[1]? = some ((1, .aload_n 1, 0, 0, 0, 0, 0, 0, []) : xm_I) := rfl
theorem r_X4_share_2 : co_X4_share[2]? = some ((2, .getfield 24, 242, 0, 11, 0, 0, 0, []) : xm_I) := rfl
theorem r_X4_share_3 : co_X4_share[3]? = some ((5, .if_icmp .ge 9, 0, 0, 7, 0, 0, 0, []) : xm_I) := rfl
theorem r_X4_share_4 : co_X4_share[4]? = some ((8, .iload_n 2, 0, 0, 0, 0, 0, 0, []) : xm_I) := rfl
theorem r_X4_share_5 : co_X4_share[5]? = some ((9, .bipush 6, 0, 0, 0, 0, 6, 0, []) : xm_I) := rfl
theorem r_X4_share_6 : co_X4_share[6]? = some ((11, .if_icmp .lt 24, 0, 0, 19, 0, 0, 0, []) : xm_I) := rfl
theorem r_X4_share_7 : co_X4_share[7]? = some ((14, .aload_n 0, 0, 0, 0, 0, 0, 0, []) : xm_I) := rfl
theorem r_X4_share_8 : co_X4_share[8]? = some ((15, .iload_n 3, 0, 0, 0, 0, 0, 0, []) : xm_I) := rfl
theorem r_X4_share_9 : co_X4_share[9]? = some ((16, .putfield 45, 429, 4, 5, 0, 0, 0, []) : xm_I) := rfl
theorem r_X4_share_10 : co_X4_share[10]? = some ((19, .aload_n 0, 0, 0, 0, 0, 0, 0, []) : xm_I) := rfl
theorem r_X4_share_11 : co_X4_share[11]? = some ((20, .getfield 18, 426, 4, 2, 2, 0, 0, []) : xm_I) := rfl
theorem r_X4_share_12 : co_X4_share[12]? = some ((23, .iconst 0, 0, 0, 0, 0, 0, 0, []) : xm_I) := rfl
theorem r_X4_share_13 : co_X4_share[13]? = some ((24, .aload_n 0, 0, 0, 0, 0, 0, 0, []) : xm_I) := rfl
theorem r_X4_share_14 : co_X4_share[14]? = some ((25, .getfield 21, 427, 4, 3, 2, 0, 0, []) : xm_I) := rfl
theorem r_X4_share_15 : co_X4_share[15]? = some ((28, .iconst 0, 0, 0, 0, 0, 0, 0, []) : xm_I) := rfl
theorem r_X4_share_16 : co_X4_share[16]? = some ((29, .bipush 6, 0, 0, 0, 0, 6, 0, []) : xm_I) := rfl
theorem r_X4_share_17 : co_X4_share[17]? = some ((31, .invokestatic 55, 1251, 0, 0, 1, 0, 0, []) : xm_I) := rfl
theorem r_X4_share_18 : co_X4_share[18]? = some ((34, .return_, 0, 0, 0, 0, 0, 0, []) : xm_I) := rfl
theorem r_X4_share_19 : co_X4_share[19]? = some ((35, .iconst 0, 0, 0, 0, 0, 0, 0, []) : xm_I) := rfl
theorem r_X4_share_20 : co_X4_share[20]? = some ((36, .istore 4, 0, 0, 0, 0, 0, 0, []) : xm_I) := rfl
theorem r_X4_share_21 : co_X4_share[21]? = some ((38, .iload 4, 0, 0, 0, 0, 0, 0, []) : xm_I) := rfl
theorem r_X4_share_22 : co_X4_share[22]? = some ((40, .aload_n 0, 0, 0, 0, 0, 0, 0, []) : xm_I) := rfl
theorem r_X4_share_23 : co_X4_share[23]? = some ((41, .getfield 37, 428, 4, 4, 0, 0, 0, []) : xm_I) := rfl
theorem r_X4_share_24 : co_X4_share[24]? = some ((44, .if_icmp .ge 86, 0, 0, 74, 0, 0, 0, []) : xm_I) := rfl
theorem r_X4_share_25 : co_X4_share[25]? = some ((47, .iload 4, 0, 0, 0, 0, 0, 0, []) : xm_I) := rfl
theorem r_X4_share_26 : co_X4_share[26]? = some ((49, .iconst 5, 0, 0, 0, 0, 5, 0, []) : xm_I) := rfl
theorem r_X4_share_27 : co_X4_share[27]? = some ((50, .if_icmp .ge 80, 0, 0, 74, 0, 0, 0, []) : xm_I) := rfl
theorem r_X4_share_28 : co_X4_share[28]? = some ((53, .aload_n 0, 0, 0, 0, 0, 0, 0, []) : xm_I) := rfl
theorem r_X4_share_29 : co_X4_share[29]? = some ((54, .getfield 15, 425, 4, 1, 2, 0, 0, []) : xm_I) := rfl
theorem r_X4_share_30 : co_X4_share[30]? = some ((57, .iload 4, 0, 0, 0, 0, 0, 0, []) : xm_I) := rfl
theorem r_X4_share_31 : co_X4_share[31]? = some ((59, .dup2, 0, 0, 0, 0, 0, 0, []) : xm_I) := rfl
theorem r_X4_share_32 : co_X4_share[32]? = some ((60, .iaload, 0, 0, 0, 0, 0, 0, []) : xm_I) := rfl
theorem r_X4_share_33 : co_X4_share[33]? = some ((61, .aload_n 1, 0, 0, 0, 0, 0, 0, []) : xm_I) := rfl
theorem r_X4_share_34 : co_X4_share[34]? = some ((62, .getfield 61, 261, 0, 18, 2, 0, 0, []) : xm_I) := rfl
theorem r_X4_share_35 : co_X4_share[35]? = some ((65, .iload_n 2, 0, 0, 0, 0, 0, 0, []) : xm_I) := rfl
theorem r_X4_share_36 : co_X4_share[36]? = some ((66, .iaload, 0, 0, 0, 0, 0, 0, []) : xm_I) := rfl
theorem r_X4_share_37 : co_X4_share[37]? = some ((67, .iadd, 0, 0, 0, 0, 0, 0, []) : xm_I) := rfl
theorem r_X4_share_38 : co_X4_share[38]? = some ((68, .iastore, 0, 0, 0, 0, 0, 0, []) : xm_I) := rfl
theorem r_X4_share_39 : co_X4_share[39]? = some ((69, .iload_n 3, 0, 0, 0, 0, 0, 0, []) : xm_I) := rfl
theorem r_X4_share_40 : co_X4_share[40]? = some ((70, .aload_n 0, 0, 0, 0, 0, 0, 0, []) : xm_I) := rfl
theorem r_X4_share_41 : co_X4_share[41]? = some ((71, .iload 4, 0, 0, 0, 0, 0, 0, []) : xm_I) := rfl
theorem r_X4_share_42 : co_X4_share[42]? = some ((73, .invokevirtual 64, 1252, 163, 2, 4, 0, 0, []) : xm_I) := rfl
theorem r_X4_share_43 : co_X4_share[43]? = some ((76, .invokestatic 68, 1256, 0, 0, 2, 0, 0, []) : xm_I) := rfl
theorem r_X4_share_44 : co_X4_share[44]? = some ((79, .istore 5, 0, 0, 0, 0, 0, 0, []) : xm_I) := rfl
theorem r_X4_share_45 : co_X4_share[45]? = some ((81, .iload 5, 0, 0, 0, 0, 0, 0, []) : xm_I) := rfl
theorem r_X4_share_46 : co_X4_share[46]? = some ((83, .aload_n 0, 0, 0, 0, 0, 0, 0, []) : xm_I) := rfl
theorem r_X4_share_47 : co_X4_share[47]? = some ((84, .getfield 45, 429, 4, 5, 0, 0, 0, []) : xm_I) := rfl
theorem r_X4_share_48 : co_X4_share[48]? = some ((87, .if_icmp .ge 21, 0, 0, 61, 0, 0, 0, []) : xm_I) := rfl
theorem r_X4_share_49 : co_X4_share[49]? = some ((90, .aload_n 0, 0, 0, 0, 0, 0, 0, []) : xm_I) := rfl
theorem r_X4_share_50 : co_X4_share[50]? = some ((91, .getfield 18, 426, 4, 2, 2, 0, 0, []) : xm_I) := rfl
theorem r_X4_share_51 : co_X4_share[51]? = some ((94, .iload_n 2, 0, 0, 0, 0, 0, 0, []) : xm_I) := rfl
theorem r_X4_share_52 : co_X4_share[52]? = some ((95, .iload 4, 0, 0, 0, 0, 0, 0, []) : xm_I) := rfl
theorem r_X4_share_53 : co_X4_share[53]? = some ((97, .iastore, 0, 0, 0, 0, 0, 0, []) : xm_I) := rfl
theorem r_X4_share_54 : co_X4_share[54]? = some ((98, .aload_n 0, 0, 0, 0, 0, 0, 0, []) : xm_I) := rfl
theorem r_X4_share_55 : co_X4_share[55]? = some ((99, .aload_n 1, 0, 0, 0, 0, 0, 0, []) : xm_I) := rfl
theorem r_X4_share_56 : co_X4_share[56]? = some ((100, .iload_n 2, 0, 0, 0, 0, 0, 0, []) : xm_I) := rfl
theorem r_X4_share_57 : co_X4_share[57]? = some ((101, .iconst 1, 0, 0, 0, 0, 1, 0, []) : xm_I) := rfl
theorem r_X4_share_58 : co_X4_share[58]? = some ((102, .iadd, 0, 0, 0, 0, 0, 0, []) : xm_I) := rfl
theorem r_X4_share_59 : co_X4_share[59]? = some ((103, .iload 5, 0, 0, 0, 0, 0, 0, []) : xm_I) := rfl
theorem r_X4_share_60 : co_X4_share[60]? = some ((105, .invokevirtual 48, 1247, 162, 4, 4, 0, 0, []) : xm_I) := rfl
theorem r_X4_share_61 : co_X4_share[61]? = some ((108, .aload_n 0, 0, 0, 0, 0, 0, 0, []) : xm_I) := rfl
theorem r_X4_share_62 : co_X4_share[62]? = some ((109, .getfield 15, 425, 4, 1, 2, 0, 0, []) : xm_I) := rfl
theorem r_X4_share_63 : co_X4_share[63]? = some ((112, .iload 4, 0, 0, 0, 0, 0, 0, []) : xm_I) := rfl
theorem r_X4_share_64 : co_X4_share[64]? = some ((114, .dup2, 0, 0, 0, 0, 0, 0, []) : xm_I) := rfl
theorem r_X4_share_65 : co_X4_share[65]? = some ((115, .iaload, 0, 0, 0, 0, 0, 0, []) : xm_I) := rfl
theorem r_X4_share_66 : co_X4_share[66]? = some ((116, .aload_n 1, 0, 0, 0, 0, 0, 0, []) : xm_I) := rfl
theorem r_X4_share_67 : co_X4_share[67]? = some ((117, .getfield 61, 261, 0, 18, 2, 0, 0, []) : xm_I) := rfl
theorem r_X4_share_68 : co_X4_share[68]? = some ((120, .iload_n 2, 0, 0, 0, 0, 0, 0, []) : xm_I) := rfl
theorem r_X4_share_69 : co_X4_share[69]? = some ((121, .iaload, 0, 0, 0, 0, 0, 0, []) : xm_I) := rfl
theorem r_X4_share_70 : co_X4_share[70]? = some ((122, .isub, 0, 0, 0, 0, 0, 0, []) : xm_I) := rfl
theorem r_X4_share_71 : co_X4_share[71]? = some ((123, .iastore, 0, 0, 0, 0, 0, 0, []) : xm_I) := rfl
theorem r_X4_share_72 : co_X4_share[72]? = some ((124, .iinc 4 1, 0, 0, 0, 0, 1, 0, []) : xm_I) := rfl
theorem r_X4_share_73 : co_X4_share[73]? = some ((127, .goto (-89), 0, 0, 21, 0, 0, 0, []) : xm_I) := rfl
theorem r_X4_share_74 : co_X4_share[74]? = some ((130, .return_, 0, 0, 0, 0, 0, 0, []) : xm_I) := rfl
theorem p_X4_share_0_0 {X : xm_X} {P : List xm_M} {d : Nat} {h : xm_H} {l0 : Nat} {l1 : Nat} {l2 : Int32} {l3 : Int32} {v0 : Nat} {v1 : Nat} {n2 : Nat} {n3 : Nat} (q0 : X.1[l1]? = some (.inr 0)) (q1 : h.1 l1 11 ≤ l2) (q2 : X.1[l0]? = some (.inr 4)) (q3 : (xm_si h l0 5 l3).2.2 l0 2 = some v0) (q4 : (xm_si h l0 5 l3).2.2 l0 3 = some v1) (q5 : X.1[v0]? = some (.inl (0, n2))) (q6 : X.1[v1]? = some (.inl (0, n3))) (q7 : ¬ ((0 : Int32) < 0 ∨ (0 : Int32) < 0 ∨ (6 : Int32) < 0 ∨ n2 < (0 : Int32).toNatClampNeg + (6 : Int32).toNatClampNeg ∨ n3 < (0 : Int32).toNatClampNeg + (6 : Int32).toNatClampNeg ∨ 8 < (([] : List Value).map fun v => v.category).sum)) : xm_E X P d co_X4_share 0 [some (.ref l0), some (.ref l1), some (.int l2), some (.int l3), none, none] [] h none (xm_ci_cpy (xm_si h l0 5 l3) v0 v1 (0 : Int32).toNatClampNeg (0 : Int32).toNatClampNeg (6 : Int32).toNatClampNeg) := by
  refine xm_E_s r_X4_share_0 rfl rfl ?_
  refine xm_E_s r_X4_share_1 rfl rfl ?_
  refine xm_E_s r_X4_share_2 rfl (xm_T_gi rfl q0 rfl (Or.inl rfl)) ?_
  refine xm_E_s r_X4_share_3 rfl rfl ?_
  refine xm_E_t q1 ?_
  refine xm_E_s r_X4_share_7 rfl rfl ?_
  refine xm_E_s r_X4_share_8 rfl rfl ?_
  refine xm_E_s r_X4_share_9 rfl (xm_T_pi rfl q2 rfl rfl) ?_
  refine xm_E_s r_X4_share_10 rfl rfl ?_
  refine xm_E_s r_X4_share_11 rfl (xm_T_gr rfl q2 rfl rfl q3) ?_
  refine xm_E_s r_X4_share_12 rfl rfl ?_
  refine xm_E_s r_X4_share_13 rfl rfl ?_
  refine xm_E_s r_X4_share_14 rfl (xm_T_gr rfl q2 rfl rfl q4) ?_
  refine xm_E_s r_X4_share_15 rfl rfl ?_
  refine xm_E_s r_X4_share_16 rfl rfl ?_
  refine xm_E_s r_X4_share_17 rfl (xm_T_cpi rfl rfl q5 q6 q7) ?_
  exact xm_E_ret r_X4_share_18 rfl
theorem p_X4_share_0_1 {X : xm_X} {P : List xm_M} {d : Nat} {h : xm_H} {l0 : Nat} {l1 : Nat} {l2 : Int32} {l3 : Int32} {ro : Option Value} {ho : xm_H} (q0 : X.1[l1]? = some (.inr 0)) (q1 : ¬ (h.1 l1 11 ≤ l2)) (q2 : l2 < (6 : Int32)) (K : xm_E X P d co_X4_share 21 [some (.ref l0), some (.ref l1), some (.int l2), some (.int l3), some (.int (0 : Int32)), none] [] h ro ho) : xm_E X P d co_X4_share 0 [some (.ref l0), some (.ref l1), some (.int l2), some (.int l3), none, none] [] h ro ho := by
  refine xm_E_s r_X4_share_0 rfl rfl ?_
  refine xm_E_s r_X4_share_1 rfl rfl ?_
  refine xm_E_s r_X4_share_2 rfl (xm_T_gi rfl q0 rfl (Or.inl rfl)) ?_
  refine xm_E_s r_X4_share_3 rfl rfl ?_
  refine xm_E_f q1 ?_
  refine xm_E_s r_X4_share_4 rfl rfl ?_
  refine xm_E_s r_X4_share_5 rfl rfl ?_
  refine xm_E_s r_X4_share_6 rfl rfl ?_
  refine xm_E_t q2 ?_
  refine xm_E_s r_X4_share_19 rfl rfl ?_
  refine xm_E_s (ls1 := [some (.ref l0), some (.ref l1), some (.int l2), some (.int l3), some (.int (0 : Int32)), none]) r_X4_share_20 rfl rfl ?_
  exact K
theorem p_X4_share_0_2 {X : xm_X} {P : List xm_M} {d : Nat} {h : xm_H} {l0 : Nat} {l1 : Nat} {l2 : Int32} {l3 : Int32} {v0 : Nat} {v1 : Nat} {n2 : Nat} {n3 : Nat} (q0 : X.1[l1]? = some (.inr 0)) (q1 : ¬ (h.1 l1 11 ≤ l2)) (q2 : ¬ (l2 < (6 : Int32))) (q3 : X.1[l0]? = some (.inr 4)) (q4 : (xm_si h l0 5 l3).2.2 l0 2 = some v0) (q5 : (xm_si h l0 5 l3).2.2 l0 3 = some v1) (q6 : X.1[v0]? = some (.inl (0, n2))) (q7 : X.1[v1]? = some (.inl (0, n3))) (q8 : ¬ ((0 : Int32) < 0 ∨ (0 : Int32) < 0 ∨ (6 : Int32) < 0 ∨ n2 < (0 : Int32).toNatClampNeg + (6 : Int32).toNatClampNeg ∨ n3 < (0 : Int32).toNatClampNeg + (6 : Int32).toNatClampNeg ∨ 8 < (([] : List Value).map fun v => v.category).sum)) : xm_E X P d co_X4_share 0 [some (.ref l0), some (.ref l1), some (.int l2), some (.int l3), none, none] [] h none (xm_ci_cpy (xm_si h l0 5 l3) v0 v1 (0 : Int32).toNatClampNeg (0 : Int32).toNatClampNeg (6 : Int32).toNatClampNeg) := by
  refine xm_E_s r_X4_share_0 rfl rfl ?_
  refine xm_E_s r_X4_share_1 rfl rfl ?_
  refine xm_E_s r_X4_share_2 rfl (xm_T_gi rfl q0 rfl (Or.inl rfl)) ?_
  refine xm_E_s r_X4_share_3 rfl rfl ?_
  refine xm_E_f q1 ?_
  refine xm_E_s r_X4_share_4 rfl rfl ?_
  refine xm_E_s r_X4_share_5 rfl rfl ?_
  refine xm_E_s r_X4_share_6 rfl rfl ?_
  refine xm_E_f q2 ?_
  refine xm_E_s r_X4_share_7 rfl rfl ?_
  refine xm_E_s r_X4_share_8 rfl rfl ?_
  refine xm_E_s r_X4_share_9 rfl (xm_T_pi rfl q3 rfl rfl) ?_
  refine xm_E_s r_X4_share_10 rfl rfl ?_
  refine xm_E_s r_X4_share_11 rfl (xm_T_gr rfl q3 rfl rfl q4) ?_
  refine xm_E_s r_X4_share_12 rfl rfl ?_
  refine xm_E_s r_X4_share_13 rfl rfl ?_
  refine xm_E_s r_X4_share_14 rfl (xm_T_gr rfl q3 rfl rfl q5) ?_
  refine xm_E_s r_X4_share_15 rfl rfl ?_
  refine xm_E_s r_X4_share_16 rfl rfl ?_
  refine xm_E_s r_X4_share_17 rfl (xm_T_cpi rfl rfl q6 q7 q8) ?_
  exact xm_E_ret r_X4_share_18 rfl
theorem p_X4_share_21_0 {X : xm_X} {P : List xm_M} {d : Nat} {h : xm_H} {l0 : Nat} {l1 : Nat} {l2 : Int32} {l3 : Int32} {l4 : Int32} {l5 : Option Value} (q0 : X.1[l0]? = some (.inr 4)) (q1 : h.1 l0 4 ≤ l4) : xm_E X P d co_X4_share 21 [some (.ref l0), some (.ref l1), some (.int l2), some (.int l3), some (.int l4), l5] [] h none h := by
  refine xm_E_s r_X4_share_21 rfl rfl ?_
  refine xm_E_s r_X4_share_22 rfl rfl ?_
  refine xm_E_s r_X4_share_23 rfl (xm_T_gi rfl q0 rfl (Or.inl rfl)) ?_
  refine xm_E_s r_X4_share_24 rfl rfl ?_
  refine xm_E_t q1 ?_
  exact xm_E_ret r_X4_share_74 rfl
theorem p_X4_share_21_1 {X : xm_X} {P : List xm_M} {d : Nat} {h : xm_H} {l0 : Nat} {l1 : Nat} {l2 : Int32} {l3 : Int32} {l4 : Int32} {l5 : Option Value} (q0 : X.1[l0]? = some (.inr 4)) (q1 : ¬ (h.1 l0 4 ≤ l4)) (q2 : (5 : Int32) ≤ l4) : xm_E X P d co_X4_share 21 [some (.ref l0), some (.ref l1), some (.int l2), some (.int l3), some (.int l4), l5] [] h none h := by
  refine xm_E_s r_X4_share_21 rfl rfl ?_
  refine xm_E_s r_X4_share_22 rfl rfl ?_
  refine xm_E_s r_X4_share_23 rfl (xm_T_gi rfl q0 rfl (Or.inl rfl)) ?_
  refine xm_E_s r_X4_share_24 rfl rfl ?_
  refine xm_E_f q1 ?_
  refine xm_E_s r_X4_share_25 rfl rfl ?_
  refine xm_E_s r_X4_share_26 rfl rfl ?_
  refine xm_E_s r_X4_share_27 rfl rfl ?_
  refine xm_E_t q2 ?_
  exact xm_E_ret r_X4_share_74 rfl
theorem p_X4_share_21_2 {X : xm_X} {P : List xm_M} {d : Nat} {h : xm_H} {l0 : Nat} {l1 : Nat} {l2 : Int32} {l3 : Int32} {l4 : Int32} {l5 : Option Value} {v0 : Nat} {n1 : Nat} {v2 : Nat} {n3 : Nat} {h4 : xm_H} {r4 : Int32} {v5 : Nat} {n6 : Nat} {v7 : Nat} {n8 : Nat} {ro : Option Value} {ho : xm_H} (q0 : X.1[l0]? = some (.inr 4)) (q1 : ¬ (h.1 l0 4 ≤ l4)) (q2 : ¬ ((5 : Int32) ≤ l4)) (q3 : h.2.2 l0 1 = some v0) (q4 : X.1[v0]? = some (.inl (0, n1))) (q5 : ¬ (l4 < 0 ∨ n1 ≤ l4.toNatClampNeg)) (q6 : X.1[l1]? = some (.inr 0)) (q7 : h.2.2 l1 18 = some v2) (q8 : X.1[v2]? = some (.inl (0, n3))) (q9 : ¬ (l2 < 0 ∨ n3 ≤ l2.toNatClampNeg)) (q10 : xm_V X P d 163 [.ref l0, .int l4] (xm_si h v0 l4.toNatClampNeg ((h.1 v0 l4.toNatClampNeg) + (h.1 v2 l2.toNatClampNeg))) (some (.int r4)) h4) (q11 : h4.1 l0 5 ≤ if l3 < r4 then r4 else l3) (q12 : h4.2.2 l0 1 = some v5) (q13 : X.1[v5]? = some (.inl (0, n6))) (q14 : ¬ (l4 < 0 ∨ n6 ≤ l4.toNatClampNeg)) (q15 : h4.2.2 l1 18 = some v7) (q16 : X.1[v7]? = some (.inl (0, n8))) (q17 : ¬ (l2 < 0 ∨ n8 ≤ l2.toNatClampNeg)) (K : xm_E X P d co_X4_share 21 [some (.ref l0), some (.ref l1), some (.int l2), some (.int l3), some (.int (l4 + (1 : Int32))), some (.int (if l3 < r4 then r4 else l3))] [] (xm_si h4 v5 l4.toNatClampNeg ((h4.1 v5 l4.toNatClampNeg) - (h4.1 v7 l2.toNatClampNeg))) ro ho) : xm_E X P d co_X4_share 21 [some (.ref l0), some (.ref l1), some (.int l2), some (.int l3), some (.int l4), l5] [] h ro ho := by
  refine xm_E_s r_X4_share_21 rfl rfl ?_
  refine xm_E_s r_X4_share_22 rfl rfl ?_
  refine xm_E_s r_X4_share_23 rfl (xm_T_gi rfl q0 rfl (Or.inl rfl)) ?_
  refine xm_E_s r_X4_share_24 rfl rfl ?_
  refine xm_E_f q1 ?_
  refine xm_E_s r_X4_share_25 rfl rfl ?_
  refine xm_E_s r_X4_share_26 rfl rfl ?_
  refine xm_E_s r_X4_share_27 rfl rfl ?_
  refine xm_E_f q2 ?_
  refine xm_E_s r_X4_share_28 rfl rfl ?_
  refine xm_E_s r_X4_share_29 rfl (xm_T_gr rfl q0 rfl rfl q3) ?_
  refine xm_E_s r_X4_share_30 rfl rfl ?_
  refine xm_E_s r_X4_share_31 rfl rfl ?_
  refine xm_E_s r_X4_share_32 rfl (xm_T_iald rfl q4 (by decide) q5) ?_
  refine xm_E_s r_X4_share_33 rfl rfl ?_
  refine xm_E_s r_X4_share_34 rfl (xm_T_gr rfl q6 rfl rfl q7) ?_
  refine xm_E_s r_X4_share_35 rfl rfl ?_
  refine xm_E_s r_X4_share_36 rfl (xm_T_iald rfl q8 (by decide) q9) ?_
  refine xm_E_s r_X4_share_37 rfl rfl ?_
  refine xm_E_s r_X4_share_38 rfl (xm_T_asi rfl q4 q5) ?_
  refine xm_E_s r_X4_share_39 rfl rfl ?_
  refine xm_E_s r_X4_share_40 rfl rfl ?_
  refine xm_E_s r_X4_share_41 rfl rfl ?_
  refine xm_E_cv [.ref l0, .int l4] [.int l3] r_X4_share_42 rfl rfl (Nat.le_of_ble_eq_true rfl) (xm_rc q0 (by decide)) rfl q10 ?_
  refine xm_E_s r_X4_share_43 rfl rfl ?_
  refine xm_E_s (ls1 := [some (.ref l0), some (.ref l1), some (.int l2), some (.int l3), some (.int l4), some (.int (if l3 < r4 then r4 else l3))]) r_X4_share_44 rfl rfl ?_
  refine xm_E_s r_X4_share_45 rfl rfl ?_
  refine xm_E_s r_X4_share_46 rfl rfl ?_
  refine xm_E_s r_X4_share_47 rfl (xm_T_gi rfl q0 rfl (Or.inl rfl)) ?_
  refine xm_E_s r_X4_share_48 rfl rfl ?_
  refine xm_E_t q11 ?_
  refine xm_E_s r_X4_share_61 rfl rfl ?_
  refine xm_E_s r_X4_share_62 rfl (xm_T_gr rfl q0 rfl rfl q12) ?_
  refine xm_E_s r_X4_share_63 rfl rfl ?_
  refine xm_E_s r_X4_share_64 rfl rfl ?_
  refine xm_E_s r_X4_share_65 rfl (xm_T_iald rfl q13 (by decide) q14) ?_
  refine xm_E_s r_X4_share_66 rfl rfl ?_
  refine xm_E_s r_X4_share_67 rfl (xm_T_gr rfl q6 rfl rfl q15) ?_
  refine xm_E_s r_X4_share_68 rfl rfl ?_
  refine xm_E_s r_X4_share_69 rfl (xm_T_iald rfl q16 (by decide) q17) ?_
  refine xm_E_s r_X4_share_70 rfl rfl ?_
  refine xm_E_s r_X4_share_71 rfl (xm_T_asi rfl q13 q14) ?_
  refine xm_E_s (ls1 := [some (.ref l0), some (.ref l1), some (.int l2), some (.int l3), some (.int (l4 + (1 : Int32))), some (.int (if l3 < r4 then r4 else l3))]) r_X4_share_72 rfl rfl ?_
  refine xm_E_s r_X4_share_73 rfl rfl ?_
  exact K
theorem p_X4_share_21_3 {X : xm_X} {P : List xm_M} {d : Nat} {h : xm_H} {l0 : Nat} {l1 : Nat} {l2 : Int32} {l3 : Int32} {l4 : Int32} {l5 : Option Value} {v0 : Nat} {n1 : Nat} {v2 : Nat} {n3 : Nat} {h4 : xm_H} {r4 : Int32} {v5 : Nat} {n6 : Nat} {h7 : xm_H} {v8 : Nat} {n9 : Nat} {v10 : Nat} {n11 : Nat} {ro : Option Value} {ho : xm_H} (q0 : X.1[l0]? = some (.inr 4)) (q1 : ¬ (h.1 l0 4 ≤ l4)) (q2 : ¬ ((5 : Int32) ≤ l4)) (q3 : h.2.2 l0 1 = some v0) (q4 : X.1[v0]? = some (.inl (0, n1))) (q5 : ¬ (l4 < 0 ∨ n1 ≤ l4.toNatClampNeg)) (q6 : X.1[l1]? = some (.inr 0)) (q7 : h.2.2 l1 18 = some v2) (q8 : X.1[v2]? = some (.inl (0, n3))) (q9 : ¬ (l2 < 0 ∨ n3 ≤ l2.toNatClampNeg)) (q10 : xm_V X P d 163 [.ref l0, .int l4] (xm_si h v0 l4.toNatClampNeg ((h.1 v0 l4.toNatClampNeg) + (h.1 v2 l2.toNatClampNeg))) (some (.int r4)) h4) (q11 : ¬ (h4.1 l0 5 ≤ if l3 < r4 then r4 else l3)) (q12 : h4.2.2 l0 2 = some v5) (q13 : X.1[v5]? = some (.inl (0, n6))) (q14 : ¬ (l2 < 0 ∨ n6 ≤ l2.toNatClampNeg)) (q15 : xm_V X P d 162 [.ref l0, .ref l1, .int (l2 + (1 : Int32)), .int (if l3 < r4 then r4 else l3)] (xm_si h4 v5 l2.toNatClampNeg l4) none h7) (q16 : h7.2.2 l0 1 = some v8) (q17 : X.1[v8]? = some (.inl (0, n9))) (q18 : ¬ (l4 < 0 ∨ n9 ≤ l4.toNatClampNeg)) (q19 : h7.2.2 l1 18 = some v10) (q20 : X.1[v10]? = some (.inl (0, n11))) (q21 : ¬ (l2 < 0 ∨ n11 ≤ l2.toNatClampNeg)) (K : xm_E X P d co_X4_share 21 [some (.ref l0), some (.ref l1), some (.int l2), some (.int l3), some (.int (l4 + (1 : Int32))), some (.int (if l3 < r4 then r4 else l3))] [] (xm_si h7 v8 l4.toNatClampNeg ((h7.1 v8 l4.toNatClampNeg) - (h7.1 v10 l2.toNatClampNeg))) ro ho) : xm_E X P d co_X4_share 21 [some (.ref l0), some (.ref l1), some (.int l2), some (.int l3), some (.int l4), l5] [] h ro ho := by
  refine xm_E_s r_X4_share_21 rfl rfl ?_
  refine xm_E_s r_X4_share_22 rfl rfl ?_
  refine xm_E_s r_X4_share_23 rfl (xm_T_gi rfl q0 rfl (Or.inl rfl)) ?_
  refine xm_E_s r_X4_share_24 rfl rfl ?_
  refine xm_E_f q1 ?_
  refine xm_E_s r_X4_share_25 rfl rfl ?_
  refine xm_E_s r_X4_share_26 rfl rfl ?_
  refine xm_E_s r_X4_share_27 rfl rfl ?_
  refine xm_E_f q2 ?_
  refine xm_E_s r_X4_share_28 rfl rfl ?_
  refine xm_E_s r_X4_share_29 rfl (xm_T_gr rfl q0 rfl rfl q3) ?_
  refine xm_E_s r_X4_share_30 rfl rfl ?_
  refine xm_E_s r_X4_share_31 rfl rfl ?_
  refine xm_E_s r_X4_share_32 rfl (xm_T_iald rfl q4 (by decide) q5) ?_
  refine xm_E_s r_X4_share_33 rfl rfl ?_
  refine xm_E_s r_X4_share_34 rfl (xm_T_gr rfl q6 rfl rfl q7) ?_
  refine xm_E_s r_X4_share_35 rfl rfl ?_
  refine xm_E_s r_X4_share_36 rfl (xm_T_iald rfl q8 (by decide) q9) ?_
  refine xm_E_s r_X4_share_37 rfl rfl ?_
  refine xm_E_s r_X4_share_38 rfl (xm_T_asi rfl q4 q5) ?_
  refine xm_E_s r_X4_share_39 rfl rfl ?_
  refine xm_E_s r_X4_share_40 rfl rfl ?_
  refine xm_E_s r_X4_share_41 rfl rfl ?_
  refine xm_E_cv [.ref l0, .int l4] [.int l3] r_X4_share_42 rfl rfl (Nat.le_of_ble_eq_true rfl) (xm_rc q0 (by decide)) rfl q10 ?_
  refine xm_E_s r_X4_share_43 rfl rfl ?_
  refine xm_E_s (ls1 := [some (.ref l0), some (.ref l1), some (.int l2), some (.int l3), some (.int l4), some (.int (if l3 < r4 then r4 else l3))]) r_X4_share_44 rfl rfl ?_
  refine xm_E_s r_X4_share_45 rfl rfl ?_
  refine xm_E_s r_X4_share_46 rfl rfl ?_
  refine xm_E_s r_X4_share_47 rfl (xm_T_gi rfl q0 rfl (Or.inl rfl)) ?_
  refine xm_E_s r_X4_share_48 rfl rfl ?_
  refine xm_E_f q11 ?_
  refine xm_E_s r_X4_share_49 rfl rfl ?_
  refine xm_E_s r_X4_share_50 rfl (xm_T_gr rfl q0 rfl rfl q12) ?_
  refine xm_E_s r_X4_share_51 rfl rfl ?_
  refine xm_E_s r_X4_share_52 rfl rfl ?_
  refine xm_E_s r_X4_share_53 rfl (xm_T_asi rfl q13 q14) ?_
  refine xm_E_s r_X4_share_54 rfl rfl ?_
  refine xm_E_s r_X4_share_55 rfl rfl ?_
  refine xm_E_s r_X4_share_56 rfl rfl ?_
  refine xm_E_s r_X4_share_57 rfl rfl ?_
  refine xm_E_s r_X4_share_58 rfl rfl ?_
  refine xm_E_s r_X4_share_59 rfl rfl ?_
  refine xm_E_cv [.ref l0, .ref l1, .int (l2 + (1 : Int32)), .int (if l3 < r4 then r4 else l3)] [] r_X4_share_60 rfl rfl (Nat.le_of_ble_eq_true rfl) (xm_rc q0 (by decide)) rfl q15 ?_
  refine xm_E_s r_X4_share_61 rfl rfl ?_
  refine xm_E_s r_X4_share_62 rfl (xm_T_gr rfl q0 rfl rfl q16) ?_
  refine xm_E_s r_X4_share_63 rfl rfl ?_
  refine xm_E_s r_X4_share_64 rfl rfl ?_
  refine xm_E_s r_X4_share_65 rfl (xm_T_iald rfl q17 (by decide) q18) ?_
  refine xm_E_s r_X4_share_66 rfl rfl ?_
  refine xm_E_s r_X4_share_67 rfl (xm_T_gr rfl q6 rfl rfl q19) ?_
  refine xm_E_s r_X4_share_68 rfl rfl ?_
  refine xm_E_s r_X4_share_69 rfl (xm_T_iald rfl q20 (by decide) q21) ?_
  refine xm_E_s r_X4_share_70 rfl rfl ?_
  refine xm_E_s r_X4_share_71 rfl (xm_T_asi rfl q17 q18) ?_
  refine xm_E_s (ls1 := [some (.ref l0), some (.ref l1), some (.int l2), some (.int l3), some (.int (l4 + (1 : Int32))), some (.int (if l3 < r4 then r4 else l3))]) r_X4_share_72 rfl rfl ?_
  refine xm_E_s r_X4_share_73 rfl rfl ?_
  exact K
theorem r_X4_timeOf_0 : co_X4_timeOf[0]? = some ((0, .aload_n 0, 0, 0, 0, 0, 0, 0, []) : xm_I) := rfl
theorem r_X4_timeOf_1 : co_X4_timeOf[1]? = some ((1, .getfield 15, 425, 4, 1, 2, 0, 0, []) : xm_I) := rfl
theorem r_X4_timeOf_2 : co_X4_timeOf[2]? = some ((4, .iload_n 1, 0, 0, 0, 0, 0, 0, []) : xm_I) := rfl
theorem r_X4_timeOf_3 : co_X4_timeOf[3]? = some ((5, .iaload, 0, 0, 0, 0, 0, 0, []) : xm_I) := rfl
theorem r_X4_timeOf_4 : co_X4_timeOf[4]? = some ((6, .istore_n 2, 0, 0, 0, 0, 0, 0, []) : xm_I) := rfl
theorem r_X4_timeOf_5 : co_X4_timeOf[5]? = some ((7, .iload_n 2, 0, 0, 0, 0, 0, 0, []) : xm_I) := rfl
theorem r_X4_timeOf_6 : co_X4_timeOf[6]? = some ((8, .ifCond .lt 25, 0, 0, 19, 0, 0, 0, []) : xm_I) := rfl
theorem r_X4_timeOf_7 : co_X4_timeOf[7]? = some ((11, .iload_n 2, 0, 0, 0, 0, 0, 0, []) : xm_I) := rfl
theorem r_X4_timeOf_8 : co_X4_timeOf[8]? = some ((12, .sipush 361, 0, 0, 0, 0, 361, 0, []) : xm_I) := rfl
theorem r_X4_timeOf_9 : co_X4_timeOf[9]? = some ((15, .if_icmp .ge 18, 0, 0, 19, 0, 0, 0, []) : xm_I) := rfl
theorem r_X4_timeOf_10 : co_X4_timeOf[10]? = some ((18, .aload_n 0, 0, 0, 0, 0, 0, 0, []) : xm_I) := rfl
theorem r_X4_timeOf_11 : co_X4_timeOf[11]? = some ((19, .getfield 11, 424, 4, 0, 2, 0, 0, []) : xm_I) := rfl
theorem r_X4_timeOf_12 : co_X4_timeOf[12]? = some ((22, .iload_n 1, 0, 0, 0, 0, 0, 0, []) : xm_I) := rfl
theorem r_X4_timeOf_13 : co_X4_timeOf[13]? = some ((23, .sipush 361, 0, 0, 0, 0, 361, 0, []) : xm_I) := rfl
theorem r_X4_timeOf_14 : co_X4_timeOf[14]? = some ((26, .imul, 0, 0, 0, 0, 0, 0, []) : xm_I) := rfl
theorem r_X4_timeOf_15 : co_X4_timeOf[15]? = some ((27, .iload_n 2, 0, 0, 0, 0, 0, 0, []) : xm_I) := rfl
theorem r_X4_timeOf_16 : co_X4_timeOf[16]? = some ((28, .iadd, 0, 0, 0, 0, 0, 0, []) : xm_I) := rfl
theorem r_X4_timeOf_17 : co_X4_timeOf[17]? = some ((29, .iaload, 0, 0, 0, 0, 0, 0, []) : xm_I) := rfl
theorem r_X4_timeOf_18 : co_X4_timeOf[18]? = some ((30, .goto 4, 0, 0, 20, 0, 0, 0, []) : xm_I) := rfl
theorem r_X4_timeOf_19 : co_X4_timeOf[19]? = some ((33, .iconst 0, 0, 0, 0, 0, 0, 0, []) : xm_I) := rfl
theorem r_X4_timeOf_20 : co_X4_timeOf[20]? = some ((34, .ireturn, 0, 0, 0, 0, 0, 0, []) : xm_I) := rfl
theorem p_X4_timeOf_0_0 {X : xm_X} {P : List xm_M} {d : Nat} {h : xm_H} {l0 : Nat} {l1 : Int32} {v0 : Nat} {n1 : Nat} (q0 : X.1[l0]? = some (.inr 4)) (q1 : h.2.2 l0 1 = some v0) (q2 : X.1[v0]? = some (.inl (0, n1))) (q3 : ¬ (l1 < 0 ∨ n1 ≤ l1.toNatClampNeg)) (q4 : h.1 v0 l1.toNatClampNeg < (0 : Int32)) : xm_E X P d co_X4_timeOf 0 [some (.ref l0), some (.int l1), none] [] h (some (.int (0 : Int32))) h := by
  refine xm_E_s r_X4_timeOf_0 rfl rfl ?_
  refine xm_E_s r_X4_timeOf_1 rfl (xm_T_gr rfl q0 rfl rfl q1) ?_
  refine xm_E_s r_X4_timeOf_2 rfl rfl ?_
  refine xm_E_s r_X4_timeOf_3 rfl (xm_T_iald rfl q2 (by decide) q3) ?_
  refine xm_E_s (ls1 := [some (.ref l0), some (.int l1), some (.int (h.1 v0 l1.toNatClampNeg))]) r_X4_timeOf_4 rfl rfl ?_
  refine xm_E_s r_X4_timeOf_5 rfl rfl ?_
  refine xm_E_s r_X4_timeOf_6 rfl rfl ?_
  refine xm_E_t q4 ?_
  refine xm_E_s r_X4_timeOf_19 rfl rfl ?_
  exact xm_E_iret r_X4_timeOf_20 rfl rfl
theorem p_X4_timeOf_0_1 {X : xm_X} {P : List xm_M} {d : Nat} {h : xm_H} {l0 : Nat} {l1 : Int32} {v0 : Nat} {n1 : Nat} (q0 : X.1[l0]? = some (.inr 4)) (q1 : h.2.2 l0 1 = some v0) (q2 : X.1[v0]? = some (.inl (0, n1))) (q3 : ¬ (l1 < 0 ∨ n1 ≤ l1.toNatClampNeg)) (q4 : ¬ (h.1 v0 l1.toNatClampNeg < (0 : Int32))) (q5 : (361 : Int32) ≤ h.1 v0 l1.toNatClampNeg) : xm_E X P d co_X4_timeOf 0 [some (.ref l0), some (.int l1), none] [] h (some (.int (0 : Int32))) h := by
  refine xm_E_s r_X4_timeOf_0 rfl rfl ?_
  refine xm_E_s r_X4_timeOf_1 rfl (xm_T_gr rfl q0 rfl rfl q1) ?_
  refine xm_E_s r_X4_timeOf_2 rfl rfl ?_
  refine xm_E_s r_X4_timeOf_3 rfl (xm_T_iald rfl q2 (by decide) q3) ?_
  refine xm_E_s (ls1 := [some (.ref l0), some (.int l1), some (.int (h.1 v0 l1.toNatClampNeg))]) r_X4_timeOf_4 rfl rfl ?_
  refine xm_E_s r_X4_timeOf_5 rfl rfl ?_
  refine xm_E_s r_X4_timeOf_6 rfl rfl ?_
  refine xm_E_f q4 ?_
  refine xm_E_s r_X4_timeOf_7 rfl rfl ?_
  refine xm_E_s r_X4_timeOf_8 rfl rfl ?_
  refine xm_E_s r_X4_timeOf_9 rfl rfl ?_
  refine xm_E_t q5 ?_
  refine xm_E_s r_X4_timeOf_19 rfl rfl ?_
  exact xm_E_iret r_X4_timeOf_20 rfl rfl
theorem p_X4_timeOf_0_2 {X : xm_X} {P : List xm_M} {d : Nat} {h : xm_H} {l0 : Nat} {l1 : Int32} {v0 : Nat} {n1 : Nat} {v2 : Nat} {n3 : Nat} (q0 : X.1[l0]? = some (.inr 4)) (q1 : h.2.2 l0 1 = some v0) (q2 : X.1[v0]? = some (.inl (0, n1))) (q3 : ¬ (l1 < 0 ∨ n1 ≤ l1.toNatClampNeg)) (q4 : ¬ (h.1 v0 l1.toNatClampNeg < (0 : Int32))) (q5 : ¬ ((361 : Int32) ≤ h.1 v0 l1.toNatClampNeg)) (q6 : h.2.2 l0 0 = some v2) (q7 : X.1[v2]? = some (.inl (0, n3))) (q8 : ¬ ((l1 * (361 : Int32)) + (h.1 v0 l1.toNatClampNeg) < 0 ∨ n3 ≤ ((l1 * (361 : Int32)) + (h.1 v0 l1.toNatClampNeg)).toNatClampNeg)) : xm_E X P d co_X4_timeOf 0 [some (.ref l0), some (.int l1), none] [] h (some (.int (h.1 v2 (((l1 * (361 : Int32)) + (h.1 v0 l1.toNatClampNeg)).toNatClampNeg)))) h := by
  refine xm_E_s r_X4_timeOf_0 rfl rfl ?_
  refine xm_E_s r_X4_timeOf_1 rfl (xm_T_gr rfl q0 rfl rfl q1) ?_
  refine xm_E_s r_X4_timeOf_2 rfl rfl ?_
  refine xm_E_s r_X4_timeOf_3 rfl (xm_T_iald rfl q2 (by decide) q3) ?_
  refine xm_E_s (ls1 := [some (.ref l0), some (.int l1), some (.int (h.1 v0 l1.toNatClampNeg))]) r_X4_timeOf_4 rfl rfl ?_
  refine xm_E_s r_X4_timeOf_5 rfl rfl ?_
  refine xm_E_s r_X4_timeOf_6 rfl rfl ?_
  refine xm_E_f q4 ?_
  refine xm_E_s r_X4_timeOf_7 rfl rfl ?_
  refine xm_E_s r_X4_timeOf_8 rfl rfl ?_
  refine xm_E_s r_X4_timeOf_9 rfl rfl ?_
  refine xm_E_f q5 ?_
  refine xm_E_s r_X4_timeOf_10 rfl rfl ?_
  refine xm_E_s r_X4_timeOf_11 rfl (xm_T_gr rfl q0 rfl rfl q6) ?_
  refine xm_E_s r_X4_timeOf_12 rfl rfl ?_
  refine xm_E_s r_X4_timeOf_13 rfl rfl ?_
  refine xm_E_s r_X4_timeOf_14 rfl rfl ?_
  refine xm_E_s r_X4_timeOf_15 rfl rfl ?_
  refine xm_E_s r_X4_timeOf_16 rfl rfl ?_
  refine xm_E_s r_X4_timeOf_17 rfl (xm_T_iald rfl q7 (by decide) q8) ?_
  refine xm_E_s r_X4_timeOf_18 rfl rfl ?_
  exact xm_E_iret r_X4_timeOf_20 rfl rfl
theorem r_X4_pairOf_0 : co_X4_pairOf[0]? = some ((0, .iload_n 1, 0, 0, 0, 0, 0, 0, []) : xm_I) := rfl
theorem r_X4_pairOf_1 : co_X4_pairOf[1]? = some ((1, .ifCond .lt 18, 0, 0, 10, 0, 0, 0, []) : xm_I) := rfl
theorem r_X4_pairOf_2 : co_X4_pairOf[2]? = some ((4, .iload_n 1, 0, 0, 0, 0, 0, 0, []) : xm_I) := rfl
theorem r_X4_pairOf_3 : co_X4_pairOf[3]? = some ((5, .bipush 6, 0, 0, 0, 0, 6, 0, []) : xm_I) := rfl
theorem r_X4_pairOf_4 : co_X4_pairOf[4]? = some ((7, .if_icmp .ge 12, 0, 0, 10, 0, 0, 0, []) : xm_I) := rfl
theorem r_X4_pairOf_5 : co_X4_pairOf[5]? = some ((10, .aload_n 0, 0, 0, 0, 0, 0, 0, []) : xm_I) := rfl
theorem r_X4_pairOf_6 : co_X4_pairOf[6]? = some ((11, .getfield 21, 427, 4, 3, 2, 0, 0, []) : xm_I) := rfl
theorem r_X4_pairOf_7 : co_X4_pairOf[7]? = some ((14, .iload_n 1, 0, 0, 0, 0, 0, 0, []) : xm_I) := rfl
theorem r_X4_pairOf_8 : co_X4_pairOf[8]? = some ((15, .iaload, 0, 0, 0, 0, 0, 0, []) : xm_I) := rfl
theorem r_X4_pairOf_9 : co_X4_pairOf[9]? = some ((16, .goto 4, 0, 0, 11, 0, 0, 0, []) : xm_I) := rfl
theorem r_X4_pairOf_10 : co_X4_pairOf[10]? = some ((19, .iconst (-1), 0, 0, 0, 0, (-1), 0, []) : xm_I) := rfl
theorem r_X4_pairOf_11 : co_X4_pairOf[11]? = some ((20, .ireturn, 0, 0, 0, 0, 0, 0, []) : xm_I) := rfl
theorem p_X4_pairOf_0_0 {X : xm_X} {P : List xm_M} {d : Nat} {h : xm_H} {l0 : Nat} {l1 : Int32} (q0 : l1 < (0 : Int32)) : xm_E X P d co_X4_pairOf 0 [some (.ref l0), some (.int l1)] [] h (some (.int (-1 : Int32))) h := by
  refine xm_E_s r_X4_pairOf_0 rfl rfl ?_
  refine xm_E_s r_X4_pairOf_1 rfl rfl ?_
  refine xm_E_t q0 ?_
  refine xm_E_s r_X4_pairOf_10 rfl rfl ?_
  exact xm_E_iret r_X4_pairOf_11 rfl rfl
theorem p_X4_pairOf_0_1 {X : xm_X} {P : List xm_M} {d : Nat} {h : xm_H} {l0 : Nat} {l1 : Int32} (q0 : ¬ (l1 < (0 : Int32))) (q1 : (6 : Int32) ≤ l1) : xm_E X P d co_X4_pairOf 0 [some (.ref l0), some (.int l1)] [] h (some (.int (-1 : Int32))) h := by
  refine xm_E_s r_X4_pairOf_0 rfl rfl ?_
  refine xm_E_s r_X4_pairOf_1 rfl rfl ?_
  refine xm_E_f q0 ?_
  refine xm_E_s r_X4_pairOf_2 rfl rfl ?_
  refine xm_E_s r_X4_pairOf_3 rfl rfl ?_
  refine xm_E_s r_X4_pairOf_4 rfl rfl ?_
  refine xm_E_t q1 ?_
  refine xm_E_s r_X4_pairOf_10 rfl rfl ?_
  exact xm_E_iret r_X4_pairOf_11 rfl rfl
theorem p_X4_pairOf_0_2 {X : xm_X} {P : List xm_M} {d : Nat} {h : xm_H} {l0 : Nat} {l1 : Int32} {v0 : Nat} {n1 : Nat} (q0 : ¬ (l1 < (0 : Int32))) (q1 : ¬ ((6 : Int32) ≤ l1)) (q2 : X.1[l0]? = some (.inr 4)) (q3 : h.2.2 l0 3 = some v0) (q4 : X.1[v0]? = some (.inl (0, n1))) (q5 : ¬ (l1 < 0 ∨ n1 ≤ l1.toNatClampNeg)) : xm_E X P d co_X4_pairOf 0 [some (.ref l0), some (.int l1)] [] h (some (.int (h.1 v0 l1.toNatClampNeg))) h := by
  refine xm_E_s r_X4_pairOf_0 rfl rfl ?_
  refine xm_E_s r_X4_pairOf_1 rfl rfl ?_
  refine xm_E_f q0 ?_
  refine xm_E_s r_X4_pairOf_2 rfl rfl ?_
  refine xm_E_s r_X4_pairOf_3 rfl rfl ?_
  refine xm_E_s r_X4_pairOf_4 rfl rfl ?_
  refine xm_E_f q1 ?_
  refine xm_E_s r_X4_pairOf_5 rfl rfl ?_
  refine xm_E_s r_X4_pairOf_6 rfl (xm_T_gr rfl q2 rfl rfl q3) ?_
  refine xm_E_s r_X4_pairOf_7 rfl rfl ?_
  refine xm_E_s r_X4_pairOf_8 rfl (xm_T_iald rfl q4 (by decide) q5) ?_
  refine xm_E_s r_X4_pairOf_9 rfl rfl ?_
  exact xm_E_iret r_X4_pairOf_11 rfl rfl
theorem r_X7_draw_0 : co_X7_draw[0]? = some ((0, .aload_n 0, 0, 0, 0, 0, 0, 0, []) : xm_I) := rfl
theorem r_X7_draw_1 : co_X7_draw[1]? = some ((1, .aload_n 1, 0, 0, 0, 0, 0, 0, []) : xm_I) := rfl
theorem r_X7_draw_2 : co_X7_draw[2]? = some ((2, .invokevirtual 47, 847, 72, 2, 6, 0, 0, []) : xm_I) := rfl
theorem r_X7_draw_3 : co_X7_draw[3]? = some ((5, .aload_n 0, 0, 0, 0, 0, 0, 0, []) : xm_I) := rfl
theorem r_X7_draw_4 : co_X7_draw[4]? = some ((6, .iload_n 3, 0, 0, 0, 0, 0, 0, []) : xm_I) := rfl
theorem r_X7_draw_5 : co_X7_draw[5]? = some ((7, .i2l, 0, 0, 0, 0, 0, 0, []) : xm_I) := rfl
theorem r_X7_draw_6 : co_X7_draw[6]? = some ((8, .putfield 68, 406, 6, 4, 1, 0, 0, []) : xm_I) := rfl
theorem r_X7_draw_7 : co_X7_draw[7]? = some ((11, .iconst 0, 0, 0, 0, 0, 0, 0, []) : xm_I) := rfl
theorem r_X7_draw_8 : co_X7_draw[8]? = some ((12, .istore 4, 0, 0, 0, 0, 0, 0, []) : xm_I) := rfl
theorem r_X7_draw_9 : co_X7_draw[9]? = some ((14, .iload 4, 0, 0, 0, 0, 0, 0, []) : xm_I) := rfl
theorem r_X7_draw_10 : co_X7_draw[10]? = some ((16, .aload_n 2, 0, 0, 0, 0, 0, 0, []) : xm_I) := rfl
theorem r_X7_draw_11 : co_X7_draw[11]? = some ((17, .getfield 51, 470, 2, 3, 0, 0, 0, []) : xm_I) := rfl
theorem r_X7_draw_12 : co_X7_draw[12]? = some ((20, .if_icmp .ge 78, 0, 0, 48, 0, 0, 0, []) : xm_I) := rfl
theorem r_X7_draw_13 : co_X7_draw[13]? = some ((23, .aload_n 2, 0, 0, 0, 0, 0, 0, []) : xm_I) := rfl
theorem r_X7_draw_14 : co_X7_draw[14]? = some ((24, .iload 4, 0, 0, 0, 0, 0, 0, []) : xm_I) := rfl
theorem r_X7_draw_15 : co_X7_draw[15]? = some ((26, .invokevirtual 60, 851, 70, 2, 2, 0, 0, []) : xm_I) := rfl
theorem r_X7_draw_16 : co_X7_draw[16]? = some ((29, .l2i, 0, 0, 0, 0, 0, 0, []) : xm_I) := rfl
theorem r_X7_draw_17 : co_X7_draw[17]? = some ((30, .istore 5, 0, 0, 0, 0, 0, 0, []) : xm_I) := rfl
theorem r_X7_draw_18 : co_X7_draw[18]? = some ((32, .aload_n 0, 0, 0, 0, 0, 0, 0, []) : xm_I) := rfl
theorem r_X7_draw_19 : co_X7_draw[19]? = some ((33, .aload_n 1, 0, 0, 0, 0, 0, 0, []) : xm_I) := rfl
theorem r_X7_draw_20 : co_X7_draw[20]? = some ((34, .getfield 56, 304, 8, 0, 2, 0, 0, []) : xm_I) := rfl
theorem r_X7_draw_21 : co_X7_draw[21]? = some ((37, .iload 5, 0, 0, 0, 0, 0, 0, []) : xm_I) := rfl
theorem r_X7_draw_22 : co_X7_draw[22]? = some ((39, .invokevirtual 72, 1281, 58, 2, 0, 0, 0, []) : xm_I) := rfl
theorem r_X7_draw_23 : co_X7_draw[23]? = some ((42, .aload_n 1, 0, 0, 0, 0, 0, 0, []) : xm_I) := rfl
theorem r_X7_draw_24 : co_X7_draw[24]? = some ((43, .getfield 56, 304, 8, 0, 2, 0, 0, []) : xm_I) := rfl
theorem r_X7_draw_25 : co_X7_draw[25]? = some ((46, .getfield 75, 228, 0, 7, 0, 0, 0, []) : xm_I) := rfl
theorem r_X7_draw_26 : co_X7_draw[26]? = some ((49, .invokevirtual 78, 1282, 170, 3, 6, 0, 0, []) : xm_I) := rfl
theorem r_X7_draw_27 : co_X7_draw[27]? = some ((52, .istore 6, 0, 0, 0, 0, 0, 0, []) : xm_I) := rfl
theorem r_X7_draw_28 : co_X7_draw[28]? = some ((54, .aload_n 0, 0, 0, 0, 0, 0, 0, []) : xm_I) := rfl
theorem r_X7_draw_29 : co_X7_draw[29]? = some ((55, .aload_n 1, 0, 0, 0, 0, 0, 0, []) : xm_I) := rfl
theorem r_X7_draw_30 : co_X7_draw[30]? = some ((56, .getfield 56, 304, 8, 0, 2, 0, 0, []) : xm_I) := rfl
theorem r_X7_draw_31 : co_X7_draw[31]? = some ((59, .iload 5, 0, 0, 0, 0, 0, 0, []) : xm_I) := rfl
theorem r_X7_draw_32 : co_X7_draw[32]? = some ((61, .invokevirtual 81, 1292, 59, 2, 0, 0, 0, []) : xm_I) := rfl
theorem r_X7_draw_33 : co_X7_draw[33]? = some ((64, .aload_n 1, 0, 0, 0, 0, 0, 0, []) : xm_I) := rfl
theorem r_X7_draw_34 : co_X7_draw[34]? = some ((65, .getfield 56, 304, 8, 0, 2, 0, 0, []) : xm_I) := rfl
theorem r_X7_draw_35 : co_X7_draw[35]? = some ((68, .getfield 84, 232, 0, 8, 0, 0, 0, []) : xm_I) := rfl
theorem r_X7_draw_36 : co_X7_draw[36]? = some ((71, .invokevirtual 78, 1282, 170, 3, 6, 0, 0, []) : xm_I) := rfl
theorem r_X7_draw_37 : co_X7_draw[37]? = some ((74, .istore 7, 0, 0, 0, 0, 0, 0, []) : xm_I) := rfl
theorem r_X7_draw_38 : co_X7_draw[38]? = some ((76, .aload_n 0, 0, 0, 0, 0, 0, 0, []) : xm_I) := rfl
theorem r_X7_draw_39 : co_X7_draw[39]? = some ((77, .aload_n 1, 0, 0, 0, 0, 0, 0, []) : xm_I) := rfl
theorem r_X7_draw_40 : co_X7_draw[40]? = some ((78, .getfield 56, 304, 8, 0, 2, 0, 0, []) : xm_I) := rfl
theorem r_X7_draw_41 : co_X7_draw[41]? = some ((81, .iload 6, 0, 0, 0, 0, 0, 0, []) : xm_I) := rfl
theorem r_X7_draw_42 : co_X7_draw[42]? = some ((83, .iload 7, 0, 0, 0, 0, 0, 0, []) : xm_I) := rfl
theorem r_X7_draw_43 : co_X7_draw[43]? = some ((85, .invokestatic 87, 1293, 60, 2, 0, 0, 0, []) : xm_I) := rfl
theorem r_X7_draw_44 : co_X7_draw[44]? = some ((88, .invokevirtual 64, 852, 73, 3, 6, 0, 0, []) : xm_I) := rfl
theorem r_X7_draw_45 : co_X7_draw[45]? = some ((91, .pop, 0, 0, 0, 0, 0, 0, []) : xm_I) := rfl
theorem r_X7_draw_46 : co_X7_draw[46]? = some ((92, .iinc 4 1, 0, 0, 0, 0, 1, 0, []) : xm_I) := rfl
theorem r_X7_draw_47 : co_X7_draw[47]? = some ((95, .goto (-81), 0, 0, 9, 0, 0, 0, []) : xm_I) := rfl
theorem r_X7_draw_48 : co_X7_draw[48]? = some ((98, .return_, 0, 0, 0, 0, 0, 0, []) : xm_I) := rfl
theorem p_X7_draw_0_0 {X : xm_X} {P : List xm_M} {d : Nat} {h : xm_H} {l0 : Nat} {l1 : Nat} {l2 : Nat} {l3 : Int32} {h0 : xm_H} {ro : Option Value} {ho : xm_H} (q0 : xm_V X P d 72 [.ref l0, .ref l1] h none h0) (q1 : X.1[l0]? = some (.inr 6)) (K : xm_E X P d co_X7_draw 9 [some (.ref l0), some (.ref l1), some (.ref l2), some (.int l3), some (.int (0 : Int32)), none, none, none] [] (xm_sl h0 l0 4 l3.toInt64) ro ho) : xm_E X P d co_X7_draw 0 [some (.ref l0), some (.ref l1), some (.ref l2), some (.int l3), none, none, none, none] [] h ro ho := by
  refine xm_E_s r_X7_draw_0 rfl rfl ?_
  refine xm_E_s r_X7_draw_1 rfl rfl ?_
  refine xm_E_cv [.ref l0, .ref l1] [] r_X7_draw_2 rfl rfl (Nat.le_of_ble_eq_true rfl) (xm_rc q1 (by decide)) rfl q0 ?_
  refine xm_E_s r_X7_draw_3 rfl rfl ?_
  refine xm_E_s r_X7_draw_4 rfl rfl ?_
  refine xm_E_s r_X7_draw_5 rfl rfl ?_
  refine xm_E_s r_X7_draw_6 rfl (xm_T_pl rfl q1 rfl rfl) ?_
  refine xm_E_s r_X7_draw_7 rfl rfl ?_
  refine xm_E_s (ls1 := [some (.ref l0), some (.ref l1), some (.ref l2), some (.int l3), some (.int (0 : Int32)), none, none, none]) r_X7_draw_8 rfl rfl ?_
  exact K
theorem p_X7_draw_9_0 {X : xm_X} {P : List xm_M} {d : Nat} {h : xm_H} {l0 : Nat} {l1 : Nat} {l2 : Nat} {l3 : Int32} {l4 : Int32} {l5 : Option Value} {l6 : Option Value} {l7 : Option Value} (q0 : X.1[l2]? = some (.inr 2)) (q1 : h.1 l2 3 ≤ l4) : xm_E X P d co_X7_draw 9 [some (.ref l0), some (.ref l1), some (.ref l2), some (.int l3), some (.int l4), l5, l6, l7] [] h none h := by
  refine xm_E_s r_X7_draw_9 rfl rfl ?_
  refine xm_E_s r_X7_draw_10 rfl rfl ?_
  refine xm_E_s r_X7_draw_11 rfl (xm_T_gi rfl q0 rfl (Or.inl rfl)) ?_
  refine xm_E_s r_X7_draw_12 rfl rfl ?_
  refine xm_E_t q1 ?_
  exact xm_E_ret r_X7_draw_48 rfl
theorem p_X7_draw_9_1 {X : xm_X} {P : List xm_M} {d : Nat} {h : xm_H} {l0 : Nat} {l1 : Nat} {l2 : Nat} {l3 : Int32} {l4 : Int32} {l5 : Option Value} {l6 : Option Value} {l7 : Option Value} {h0 : xm_H} {r0 : Int64} {v1 : Nat} {h2 : xm_H} {r2 : Int32} {v3 : Nat} {h4 : xm_H} {r4 : Int32} {v5 : Nat} {h6 : xm_H} {r6 : Int32} {v7 : Nat} {h8 : xm_H} {r8 : Int32} {v9 : Nat} {h10 : xm_H} {r10 : Int32} {h11 : xm_H} {r11 : Int32} {ro : Option Value} {ho : xm_H} (q0 : X.1[l2]? = some (.inr 2)) (q1 : ¬ (h.1 l2 3 ≤ l4)) (q2 : xm_V X P d 70 [.ref l2, .int l4] h (some (.long r0)) h0) (q3 : X.1[l1]? = some (.inr 8)) (q4 : h0.2.2 l1 0 = some v1) (q5 : xm_V X P d 58 [.ref v1, .int r0.toInt32] h0 (some (.int r2)) h2) (q6 : X.1[v1]? = some (.inr 0)) (q7 : h2.2.2 l1 0 = some v3) (q8 : X.1[v3]? = some (.inr 0)) (q9 : xm_V X P d 170 [.ref l0, .int r2, .int (h2.1 v3 7)] h2 (some (.int r4)) h4) (q10 : X.1[l0]? = some (.inr 6)) (q11 : h4.2.2 l1 0 = some v5) (q12 : xm_V X P d 59 [.ref v5, .int r0.toInt32] h4 (some (.int r6)) h6) (q13 : X.1[v5]? = some (.inr 0)) (q14 : h6.2.2 l1 0 = some v7) (q15 : X.1[v7]? = some (.inr 0)) (q16 : xm_V X P d 170 [.ref l0, .int r6, .int (h6.1 v7 8)] h6 (some (.int r8)) h8) (q17 : h8.2.2 l1 0 = some v9) (q18 : xm_V X P d 60 [.int r4, .int r8] h8 (some (.int r10)) h10) (q19 : xm_V X P d 73 [.ref l0, .ref v9, .int r10] h10 (some (.int r11)) h11) (K : xm_E X P d co_X7_draw 9 [some (.ref l0), some (.ref l1), some (.ref l2), some (.int l3), some (.int (l4 + (1 : Int32))), some (.int r0.toInt32), some (.int r4), some (.int r8)] [] h11 ro ho) : xm_E X P d co_X7_draw 9 [some (.ref l0), some (.ref l1), some (.ref l2), some (.int l3), some (.int l4), l5, l6, l7] [] h ro ho := by
  refine xm_E_s r_X7_draw_9 rfl rfl ?_
  refine xm_E_s r_X7_draw_10 rfl rfl ?_
  refine xm_E_s r_X7_draw_11 rfl (xm_T_gi rfl q0 rfl (Or.inl rfl)) ?_
  refine xm_E_s r_X7_draw_12 rfl rfl ?_
  refine xm_E_f q1 ?_
  refine xm_E_s r_X7_draw_13 rfl rfl ?_
  refine xm_E_s r_X7_draw_14 rfl rfl ?_
  refine xm_E_cv [.ref l2, .int l4] [] r_X7_draw_15 rfl rfl (Nat.le_of_ble_eq_true rfl) (xm_rc q0 (by decide)) rfl q2 ?_
  refine xm_E_s r_X7_draw_16 rfl rfl ?_
  refine xm_E_s (ls1 := [some (.ref l0), some (.ref l1), some (.ref l2), some (.int l3), some (.int l4), some (.int r0.toInt32), l6, l7]) r_X7_draw_17 rfl rfl ?_
  refine xm_E_s r_X7_draw_18 rfl rfl ?_
  refine xm_E_s r_X7_draw_19 rfl rfl ?_
  refine xm_E_s r_X7_draw_20 rfl (xm_T_gr rfl q3 rfl rfl q4) ?_
  refine xm_E_s r_X7_draw_21 rfl rfl ?_
  refine xm_E_cv [.ref v1, .int r0.toInt32] [.ref l0] r_X7_draw_22 rfl rfl (Nat.le_of_ble_eq_true rfl) (xm_rc q6 (by decide)) rfl q5 ?_
  refine xm_E_s r_X7_draw_23 rfl rfl ?_
  refine xm_E_s r_X7_draw_24 rfl (xm_T_gr rfl q3 rfl rfl q7) ?_
  refine xm_E_s r_X7_draw_25 rfl (xm_T_gi rfl q8 rfl (Or.inl rfl)) ?_
  refine xm_E_cv [.ref l0, .int r2, .int (h2.1 v3 7)] [] r_X7_draw_26 rfl rfl (Nat.le_of_ble_eq_true rfl) (xm_rc q10 (by decide)) rfl q9 ?_
  refine xm_E_s (ls1 := [some (.ref l0), some (.ref l1), some (.ref l2), some (.int l3), some (.int l4), some (.int r0.toInt32), some (.int r4), l7]) r_X7_draw_27 rfl rfl ?_
  refine xm_E_s r_X7_draw_28 rfl rfl ?_
  refine xm_E_s r_X7_draw_29 rfl rfl ?_
  refine xm_E_s r_X7_draw_30 rfl (xm_T_gr rfl q3 rfl rfl q11) ?_
  refine xm_E_s r_X7_draw_31 rfl rfl ?_
  refine xm_E_cv [.ref v5, .int r0.toInt32] [.ref l0] r_X7_draw_32 rfl rfl (Nat.le_of_ble_eq_true rfl) (xm_rc q13 (by decide)) rfl q12 ?_
  refine xm_E_s r_X7_draw_33 rfl rfl ?_
  refine xm_E_s r_X7_draw_34 rfl (xm_T_gr rfl q3 rfl rfl q14) ?_
  refine xm_E_s r_X7_draw_35 rfl (xm_T_gi rfl q15 rfl (Or.inl rfl)) ?_
  refine xm_E_cv [.ref l0, .int r6, .int (h6.1 v7 8)] [] r_X7_draw_36 rfl rfl (Nat.le_of_ble_eq_true rfl) (xm_rc q10 (by decide)) rfl q16 ?_
  refine xm_E_s (ls1 := [some (.ref l0), some (.ref l1), some (.ref l2), some (.int l3), some (.int l4), some (.int r0.toInt32), some (.int r4), some (.int r8)]) r_X7_draw_37 rfl rfl ?_
  refine xm_E_s r_X7_draw_38 rfl rfl ?_
  refine xm_E_s r_X7_draw_39 rfl rfl ?_
  refine xm_E_s r_X7_draw_40 rfl (xm_T_gr rfl q3 rfl rfl q17) ?_
  refine xm_E_s r_X7_draw_41 rfl rfl ?_
  refine xm_E_s r_X7_draw_42 rfl rfl ?_
  refine xm_E_cs [.int r4, .int r8] [.ref v9, .ref l0] r_X7_draw_43 rfl rfl rfl (Nat.le_of_ble_eq_true rfl) rfl q18 ?_
  refine xm_E_cv [.ref l0, .ref v9, .int r10] [] r_X7_draw_44 rfl rfl (Nat.le_of_ble_eq_true rfl) (xm_rc q10 (by decide)) rfl q19 ?_
  refine xm_E_s r_X7_draw_45 rfl rfl ?_
  refine xm_E_s (ls1 := [some (.ref l0), some (.ref l1), some (.ref l2), some (.int l3), some (.int (l4 + (1 : Int32))), some (.int r0.toInt32), some (.int r4), some (.int r8)]) r_X7_draw_46 rfl rfl ?_
  refine xm_E_s r_X7_draw_47 rfl rfl ?_
  exact K
theorem r_X7_heard_0 : co_X7_heard[0]? = some ((0, .iload_n 1, 0, 0, 0, 0, 0, 0, []) : xm_I) := rfl
theorem r_X7_heard_1 : co_X7_heard[1]? = some ((1, .invokestatic 90, 1286, 135, 1, 0, 0, 0, []) : xm_I) := rfl
theorem r_X7_heard_2 : co_X7_heard[2]? = some ((4, .ifCond .ne 5, 0, 0, 5, 0, 0, 0, []) : xm_I) := rfl
theorem r_X7_heard_3 : co_X7_heard[3]? = some ((7, .iload_n 1, 0, 0, 0, 0, 0, 0, []) : xm_I) := rfl
theorem r_X7_heard_4 : co_X7_heard[4]? = some ((8, .ireturn, 0, 0, 0, 0, 0, 0, []) : xm_I) := rfl
theorem r_X7_heard_5 : co_X7_heard[5]? = some ((9, .aload_n 0, 0, 0, 0, 0, 0, 0, []) : xm_I) := rfl
theorem r_X7_heard_6 : co_X7_heard[6]? = some ((10, .ldc2_w 94, 1287, 0, 0, 0, 0, 1103515245, []) : xm_I) := rfl
theorem r_X7_heard_7 : co_X7_heard[7]? = some ((13, .aload_n 0, 0, 0, 0, 0, 0, 0, []) : xm_I) := rfl
theorem r_X7_heard_8 : co_X7_heard[8]? = some ((14, .getfield 68, 406, 6, 4, 1, 0, 0, []) : xm_I) := rfl
theorem r_X7_heard_9 : co_X7_heard[9]? = some ((17, .lmul, 0, 0, 0, 0, 0, 0, []) : xm_I) := rfl
theorem r_X7_heard_10 : co_X7_heard[10]? = some ((18, .ldc2_w 96, 1288, 0, 0, 0, 0, 12345, []) : xm_I) := rfl
theorem r_X7_heard_11 : co_X7_heard[11]? = some ((21, .ladd, 0, 0, 0, 0, 0, 0, []) : xm_I) := rfl
theorem r_X7_heard_12 : co_X7_heard[12]? = some ((22, .ldc2_w 98, 1289, 0, 0, 0, 0, 2147483648, []) : xm_I) := rfl
theorem r_X7_heard_13 : co_X7_heard[13]? = some ((25, .lrem, 0, 0, 0, 0, 0, 0, []) : xm_I) := rfl
theorem r_X7_heard_14 : co_X7_heard[14]? = some ((26, .putfield 68, 406, 6, 4, 1, 0, 0, []) : xm_I) := rfl
theorem r_X7_heard_15 : co_X7_heard[15]? = some ((29, .aload_n 0, 0, 0, 0, 0, 0, 0, []) : xm_I) := rfl
theorem r_X7_heard_16 : co_X7_heard[16]? = some ((30, .getfield 68, 406, 6, 4, 1, 0, 0, []) : xm_I) := rfl
theorem r_X7_heard_17 : co_X7_heard[17]? = some ((33, .ldc2_w 100, 1290, 0, 0, 0, 0, 65536, []) : xm_I) := rfl
theorem r_X7_heard_18 : co_X7_heard[18]? = some ((36, .ldiv, 0, 0, 0, 0, 0, 0, []) : xm_I) := rfl
theorem r_X7_heard_19 : co_X7_heard[19]? = some ((37, .ldc2_w 102, 1291, 0, 0, 0, 0, 100, []) : xm_I) := rfl
theorem r_X7_heard_20 : co_X7_heard[20]? = some ((40, .lrem, 0, 0, 0, 0, 0, 0, []) : xm_I) := rfl
theorem r_X7_heard_21 : co_X7_heard[21]? = some ((41, .iload_n 2, 0, 0, 0, 0, 0, 0, []) : xm_I) := rfl
theorem r_X7_heard_22 : co_X7_heard[22]? = some ((42, .i2l, 0, 0, 0, 0, 0, 0, []) : xm_I) := rfl
theorem r_X7_heard_23 : co_X7_heard[23]? = some ((43, .lcmp, 0, 0, 0, 0, 0, 0, []) : xm_I) := rfl
theorem r_X7_heard_24 : co_X7_heard[24]? = some ((44, .ifCond .lt 5, 0, 0, 27, 0, 0, 0, []) : xm_I) := rfl
theorem r_X7_heard_25 : co_X7_heard[25]? = some ((47, .iload_n 1, 0, 0, 0, 0, 0, 0, []) : xm_I) := rfl
theorem r_X7_heard_26 : co_X7_heard[26]? = some ((48, .ireturn, 0, 0, 0, 0, 0, 0, []) : xm_I) := rfl
theorem r_X7_heard_27 : co_X7_heard[27]? = some ((49, .aload_n 0, 0, 0, 0, 0, 0, 0, []) : xm_I) := rfl
theorem r_X7_heard_28 : co_X7_heard[28]? = some ((50, .dup, 0, 0, 0, 0, 0, 0, []) : xm_I) := rfl
theorem r_X7_heard_29 : co_X7_heard[29]? = some ((51, .getfield 25, 404, 6, 3, 0, 0, 0, []) : xm_I) := rfl
theorem r_X7_heard_30 : co_X7_heard[30]? = some ((54, .iconst 1, 0, 0, 0, 0, 1, 0, []) : xm_I) := rfl
theorem r_X7_heard_31 : co_X7_heard[31]? = some ((55, .iadd, 0, 0, 0, 0, 0, 0, []) : xm_I) := rfl
theorem r_X7_heard_32 : co_X7_heard[32]? = some ((56, .putfield 25, 404, 6, 3, 0, 0, 0, []) : xm_I) := rfl
theorem r_X7_heard_33 : co_X7_heard[33]? = some ((59, .iload_n 1, 0, 0, 0, 0, 0, 0, []) : xm_I) := rfl
theorem r_X7_heard_34 : co_X7_heard[34]? = some ((60, .ifCond .ne 7, 0, 0, 37, 0, 0, 0, []) : xm_I) := rfl
theorem r_X7_heard_35 : co_X7_heard[35]? = some ((63, .iconst 1, 0, 0, 0, 0, 1, 0, []) : xm_I) := rfl
theorem r_X7_heard_36 : co_X7_heard[36]? = some ((64, .goto 4, 0, 0, 38, 0, 0, 0, []) : xm_I) := rfl
theorem r_X7_heard_37 : co_X7_heard[37]? = some ((67, .iconst 0, 0, 0, 0, 0, 0, 0, []) : xm_I) := rfl
theorem r_X7_heard_38 : co_X7_heard[38]? = some ((68, .ireturn, 0, 0, 0, 0, 0, 0, []) : xm_I) := rfl
theorem p_X7_heard_0_0 {X : xm_X} {P : List xm_M} {d : Nat} {h : xm_H} {l0 : Nat} {l1 : Int32} {l2 : Int32} {h0 : xm_H} {r0 : Int32} (q0 : xm_V X P d 135 [.int l1] h (some (.int r0)) h0) (q1 : r0 = (0 : Int32)) : xm_E X P d co_X7_heard 0 [some (.ref l0), some (.int l1), some (.int l2)] [] h (some (.int l1)) h0 := by
  refine xm_E_s r_X7_heard_0 rfl rfl ?_
  refine xm_E_cs [.int l1] [] r_X7_heard_1 rfl rfl rfl (Nat.le_of_ble_eq_true rfl) rfl q0 ?_
  refine xm_E_s r_X7_heard_2 rfl rfl ?_
  refine xm_E_t q1 ?_
  refine xm_E_s r_X7_heard_3 rfl rfl ?_
  exact xm_E_iret r_X7_heard_4 rfl rfl
theorem p_X7_heard_0_1 {X : xm_X} {P : List xm_M} {d : Nat} {h : xm_H} {l0 : Nat} {l1 : Int32} {l2 : Int32} {h0 : xm_H} {r0 : Int32} (q0 : xm_V X P d 135 [.int l1] h (some (.int r0)) h0) (q1 : ¬ (r0 = (0 : Int32))) (q2 : X.1[l0]? = some (.inr 6)) (q3 : lg_cmp ((((xm_sl h0 l0 4 ((((1103515245 : Int64) * (h0.2.1 l0 4)) + (12345 : Int64)) - (((1103515245 : Int64) * (h0.2.1 l0 4)) + (12345 : Int64)) / (2147483648 : Int64) * (2147483648 : Int64))).2.1 l0 4) / (65536 : Int64)) - (((xm_sl h0 l0 4 ((((1103515245 : Int64) * (h0.2.1 l0 4)) + (12345 : Int64)) - (((1103515245 : Int64) * (h0.2.1 l0 4)) + (12345 : Int64)) / (2147483648 : Int64) * (2147483648 : Int64))).2.1 l0 4) / (65536 : Int64)) / (100 : Int64) * (100 : Int64)) l2.toInt64 < (0 : Int32)) (q4 : l1 = (0 : Int32)) : xm_E X P d co_X7_heard 0 [some (.ref l0), some (.int l1), some (.int l2)] [] h (some (.int (1 : Int32))) (xm_si (xm_sl h0 l0 4 ((((1103515245 : Int64) * (h0.2.1 l0 4)) + (12345 : Int64)) - (((1103515245 : Int64) * (h0.2.1 l0 4)) + (12345 : Int64)) / (2147483648 : Int64) * (2147483648 : Int64))) l0 3 (((xm_sl h0 l0 4 ((((1103515245 : Int64) * (h0.2.1 l0 4)) + (12345 : Int64)) - (((1103515245 : Int64) * (h0.2.1 l0 4)) + (12345 : Int64)) / (2147483648 : Int64) * (2147483648 : Int64))).1 l0 3) + (1 : Int32))) := by
  refine xm_E_s r_X7_heard_0 rfl rfl ?_
  refine xm_E_cs [.int l1] [] r_X7_heard_1 rfl rfl rfl (Nat.le_of_ble_eq_true rfl) rfl q0 ?_
  refine xm_E_s r_X7_heard_2 rfl rfl ?_
  refine xm_E_f q1 ?_
  refine xm_E_s r_X7_heard_5 rfl rfl ?_
  refine xm_E_s r_X7_heard_6 rfl rfl ?_
  refine xm_E_s r_X7_heard_7 rfl rfl ?_
  refine xm_E_s r_X7_heard_8 rfl (xm_T_gl rfl q2 rfl rfl) ?_
  refine xm_E_s r_X7_heard_9 rfl rfl ?_
  refine xm_E_s r_X7_heard_10 rfl rfl ?_
  refine xm_E_s r_X7_heard_11 rfl rfl ?_
  refine xm_E_s r_X7_heard_12 rfl rfl ?_
  refine xm_E_s r_X7_heard_13 rfl (xm_T_lrem rfl (by decide)) ?_
  refine xm_E_s r_X7_heard_14 rfl (xm_T_pl rfl q2 rfl rfl) ?_
  refine xm_E_s r_X7_heard_15 rfl rfl ?_
  refine xm_E_s r_X7_heard_16 rfl (xm_T_gl rfl q2 rfl rfl) ?_
  refine xm_E_s r_X7_heard_17 rfl rfl ?_
  refine xm_E_s r_X7_heard_18 rfl (xm_T_ldiv rfl (by decide)) ?_
  refine xm_E_s r_X7_heard_19 rfl rfl ?_
  refine xm_E_s r_X7_heard_20 rfl (xm_T_lrem rfl (by decide)) ?_
  refine xm_E_s r_X7_heard_21 rfl rfl ?_
  refine xm_E_s r_X7_heard_22 rfl rfl ?_
  refine xm_E_s r_X7_heard_23 rfl rfl ?_
  refine xm_E_s r_X7_heard_24 rfl rfl ?_
  refine xm_E_t q3 ?_
  refine xm_E_s r_X7_heard_27 rfl rfl ?_
  refine xm_E_s r_X7_heard_28 rfl rfl ?_
  refine xm_E_s r_X7_heard_29 rfl (xm_T_gi rfl q2 rfl (Or.inl rfl)) ?_
  refine xm_E_s r_X7_heard_30 rfl rfl ?_
  refine xm_E_s r_X7_heard_31 rfl rfl ?_
  refine xm_E_s r_X7_heard_32 rfl (xm_T_pi rfl q2 rfl rfl) ?_
  refine xm_E_s r_X7_heard_33 rfl rfl ?_
  refine xm_E_s r_X7_heard_34 rfl rfl ?_
  refine xm_E_t q4 ?_
  refine xm_E_s r_X7_heard_35 rfl rfl ?_
  refine xm_E_s r_X7_heard_36 rfl rfl ?_
  exact xm_E_iret r_X7_heard_38 rfl rfl
theorem p_X7_heard_0_2 {X : xm_X} {P : List xm_M} {d : Nat} {h : xm_H} {l0 : Nat} {l1 : Int32} {l2 : Int32} {h0 : xm_H} {r0 : Int32} (q0 : xm_V X P d 135 [.int l1] h (some (.int r0)) h0) (q1 : ¬ (r0 = (0 : Int32))) (q2 : X.1[l0]? = some (.inr 6)) (q3 : lg_cmp ((((xm_sl h0 l0 4 ((((1103515245 : Int64) * (h0.2.1 l0 4)) + (12345 : Int64)) - (((1103515245 : Int64) * (h0.2.1 l0 4)) + (12345 : Int64)) / (2147483648 : Int64) * (2147483648 : Int64))).2.1 l0 4) / (65536 : Int64)) - (((xm_sl h0 l0 4 ((((1103515245 : Int64) * (h0.2.1 l0 4)) + (12345 : Int64)) - (((1103515245 : Int64) * (h0.2.1 l0 4)) + (12345 : Int64)) / (2147483648 : Int64) * (2147483648 : Int64))).2.1 l0 4) / (65536 : Int64)) / (100 : Int64) * (100 : Int64)) l2.toInt64 < (0 : Int32)) (q4 : ¬ (l1 = (0 : Int32))) : xm_E X P d co_X7_heard 0 [some (.ref l0), some (.int l1), some (.int l2)] [] h (some (.int (0 : Int32))) (xm_si (xm_sl h0 l0 4 ((((1103515245 : Int64) * (h0.2.1 l0 4)) + (12345 : Int64)) - (((1103515245 : Int64) * (h0.2.1 l0 4)) + (12345 : Int64)) / (2147483648 : Int64) * (2147483648 : Int64))) l0 3 (((xm_sl h0 l0 4 ((((1103515245 : Int64) * (h0.2.1 l0 4)) + (12345 : Int64)) - (((1103515245 : Int64) * (h0.2.1 l0 4)) + (12345 : Int64)) / (2147483648 : Int64) * (2147483648 : Int64))).1 l0 3) + (1 : Int32))) := by
  refine xm_E_s r_X7_heard_0 rfl rfl ?_
  refine xm_E_cs [.int l1] [] r_X7_heard_1 rfl rfl rfl (Nat.le_of_ble_eq_true rfl) rfl q0 ?_
  refine xm_E_s r_X7_heard_2 rfl rfl ?_
  refine xm_E_f q1 ?_
  refine xm_E_s r_X7_heard_5 rfl rfl ?_
  refine xm_E_s r_X7_heard_6 rfl rfl ?_
  refine xm_E_s r_X7_heard_7 rfl rfl ?_
  refine xm_E_s r_X7_heard_8 rfl (xm_T_gl rfl q2 rfl rfl) ?_
  refine xm_E_s r_X7_heard_9 rfl rfl ?_
  refine xm_E_s r_X7_heard_10 rfl rfl ?_
  refine xm_E_s r_X7_heard_11 rfl rfl ?_
  refine xm_E_s r_X7_heard_12 rfl rfl ?_
  refine xm_E_s r_X7_heard_13 rfl (xm_T_lrem rfl (by decide)) ?_
  refine xm_E_s r_X7_heard_14 rfl (xm_T_pl rfl q2 rfl rfl) ?_
  refine xm_E_s r_X7_heard_15 rfl rfl ?_
  refine xm_E_s r_X7_heard_16 rfl (xm_T_gl rfl q2 rfl rfl) ?_
  refine xm_E_s r_X7_heard_17 rfl rfl ?_
  refine xm_E_s r_X7_heard_18 rfl (xm_T_ldiv rfl (by decide)) ?_
  refine xm_E_s r_X7_heard_19 rfl rfl ?_
  refine xm_E_s r_X7_heard_20 rfl (xm_T_lrem rfl (by decide)) ?_
  refine xm_E_s r_X7_heard_21 rfl rfl ?_
  refine xm_E_s r_X7_heard_22 rfl rfl ?_
  refine xm_E_s r_X7_heard_23 rfl rfl ?_
  refine xm_E_s r_X7_heard_24 rfl rfl ?_
  refine xm_E_t q3 ?_
  refine xm_E_s r_X7_heard_27 rfl rfl ?_
  refine xm_E_s r_X7_heard_28 rfl rfl ?_
  refine xm_E_s r_X7_heard_29 rfl (xm_T_gi rfl q2 rfl (Or.inl rfl)) ?_
  refine xm_E_s r_X7_heard_30 rfl rfl ?_
  refine xm_E_s r_X7_heard_31 rfl rfl ?_
  refine xm_E_s r_X7_heard_32 rfl (xm_T_pi rfl q2 rfl rfl) ?_
  refine xm_E_s r_X7_heard_33 rfl rfl ?_
  refine xm_E_s r_X7_heard_34 rfl rfl ?_
  refine xm_E_f q4 ?_
  refine xm_E_s r_X7_heard_37 rfl rfl ?_
  exact xm_E_iret r_X7_heard_38 rfl rfl
theorem p_X7_heard_0_3 {X : xm_X} {P : List xm_M} {d : Nat} {h : xm_H} {l0 : Nat} {l1 : Int32} {l2 : Int32} {h0 : xm_H} {r0 : Int32} (q0 : xm_V X P d 135 [.int l1] h (some (.int r0)) h0) (q1 : ¬ (r0 = (0 : Int32))) (q2 : X.1[l0]? = some (.inr 6)) (q3 : ¬ (lg_cmp ((((xm_sl h0 l0 4 ((((1103515245 : Int64) * (h0.2.1 l0 4)) + (12345 : Int64)) - (((1103515245 : Int64) * (h0.2.1 l0 4)) + (12345 : Int64)) / (2147483648 : Int64) * (2147483648 : Int64))).2.1 l0 4) / (65536 : Int64)) - (((xm_sl h0 l0 4 ((((1103515245 : Int64) * (h0.2.1 l0 4)) + (12345 : Int64)) - (((1103515245 : Int64) * (h0.2.1 l0 4)) + (12345 : Int64)) / (2147483648 : Int64) * (2147483648 : Int64))).2.1 l0 4) / (65536 : Int64)) / (100 : Int64) * (100 : Int64)) l2.toInt64 < (0 : Int32))) : xm_E X P d co_X7_heard 0 [some (.ref l0), some (.int l1), some (.int l2)] [] h (some (.int l1)) (xm_sl h0 l0 4 ((((1103515245 : Int64) * (h0.2.1 l0 4)) + (12345 : Int64)) - (((1103515245 : Int64) * (h0.2.1 l0 4)) + (12345 : Int64)) / (2147483648 : Int64) * (2147483648 : Int64))) := by
  refine xm_E_s r_X7_heard_0 rfl rfl ?_
  refine xm_E_cs [.int l1] [] r_X7_heard_1 rfl rfl rfl (Nat.le_of_ble_eq_true rfl) rfl q0 ?_
  refine xm_E_s r_X7_heard_2 rfl rfl ?_
  refine xm_E_f q1 ?_
  refine xm_E_s r_X7_heard_5 rfl rfl ?_
  refine xm_E_s r_X7_heard_6 rfl rfl ?_
  refine xm_E_s r_X7_heard_7 rfl rfl ?_
  refine xm_E_s r_X7_heard_8 rfl (xm_T_gl rfl q2 rfl rfl) ?_
  refine xm_E_s r_X7_heard_9 rfl rfl ?_
  refine xm_E_s r_X7_heard_10 rfl rfl ?_
  refine xm_E_s r_X7_heard_11 rfl rfl ?_
  refine xm_E_s r_X7_heard_12 rfl rfl ?_
  refine xm_E_s r_X7_heard_13 rfl (xm_T_lrem rfl (by decide)) ?_
  refine xm_E_s r_X7_heard_14 rfl (xm_T_pl rfl q2 rfl rfl) ?_
  refine xm_E_s r_X7_heard_15 rfl rfl ?_
  refine xm_E_s r_X7_heard_16 rfl (xm_T_gl rfl q2 rfl rfl) ?_
  refine xm_E_s r_X7_heard_17 rfl rfl ?_
  refine xm_E_s r_X7_heard_18 rfl (xm_T_ldiv rfl (by decide)) ?_
  refine xm_E_s r_X7_heard_19 rfl rfl ?_
  refine xm_E_s r_X7_heard_20 rfl (xm_T_lrem rfl (by decide)) ?_
  refine xm_E_s r_X7_heard_21 rfl rfl ?_
  refine xm_E_s r_X7_heard_22 rfl rfl ?_
  refine xm_E_s r_X7_heard_23 rfl rfl ?_
  refine xm_E_s r_X7_heard_24 rfl rfl ?_
  refine xm_E_f q3 ?_
  refine xm_E_s r_X7_heard_25 rfl rfl ?_
  exact xm_E_iret r_X7_heard_26 rfl rfl
theorem r_X9_copy_0 : co_X9_copy[0]? = some ((0, .aload_n 0, 0, 0, 0, 0, 0, 0, []) : xm_I) := rfl
theorem r_X9_copy_1 : co_X9_copy[1]? = some ((1, .getfield 12, 303, 8, 0, 2, 0, 0, []) : xm_I) := rfl
theorem r_X9_copy_2 : co_X9_copy[2]? = some ((4, .aload_n 1, 0, 0, 0, 0, 0, 0, []) : xm_I) := rfl
theorem r_X9_copy_3 : co_X9_copy[3]? = some ((5, .getfield 12, 303, 8, 0, 2, 0, 0, []) : xm_I) := rfl
theorem r_X9_copy_4 : co_X9_copy[4]? = some ((8, .invokevirtual 63, 1321, 178, 2, 0, 0, 0, []) : xm_I) := rfl
theorem r_X9_copy_5 : co_X9_copy[5]? = some ((11, .aload_n 1, 0, 0, 0, 0, 0, 0, []) : xm_I) := rfl
theorem r_X9_copy_6 : co_X9_copy[6]? = some ((12, .getfield 18, 306, 8, 1, 2, 0, 0, []) : xm_I) := rfl
theorem r_X9_copy_7 : co_X9_copy[7]? = some ((15, .iconst 0, 0, 0, 0, 0, 0, 0, []) : xm_I) := rfl
theorem r_X9_copy_8 : co_X9_copy[8]? = some ((16, .aload_n 0, 0, 0, 0, 0, 0, 0, []) : xm_I) := rfl
theorem r_X9_copy_9 : co_X9_copy[9]? = some ((17, .getfield 18, 306, 8, 1, 2, 0, 0, []) : xm_I) := rfl
theorem r_X9_copy_10 : co_X9_copy[10]? = some ((20, .iconst 0, 0, 0, 0, 0, 0, 0, []) : xm_I) := rfl
theorem r_X9_copy_11 : co_X9_copy[11]? = some ((21, .bipush 60, 0, 0, 0, 0, 60, 0, []) : xm_I) := rfl
theorem r_X9_copy_12 : co_X9_copy[12]? = some ((23, .invokestatic 67, 1334, 0, 0, 1, 0, 0, []) : xm_I) := rfl
theorem r_X9_copy_13 : co_X9_copy[13]? = some ((26, .aload_n 0, 0, 0, 0, 0, 0, 0, []) : xm_I) := rfl
theorem r_X9_copy_14 : co_X9_copy[14]? = some ((27, .aload_n 1, 0, 0, 0, 0, 0, 0, []) : xm_I) := rfl
theorem r_X9_copy_15 : co_X9_copy[15]? = some ((28, .getfield 26, 307, 8, 2, 0, 0, 0, []) : xm_I) := rfl
theorem r_X9_copy_16 : co_X9_copy[16]? = some ((31, .putfield 26, 307, 8, 2, 0, 0, 0, []) : xm_I) := rfl
theorem r_X9_copy_17 : co_X9_copy[17]? = some ((34, .aload_n 0, 0, 0, 0, 0, 0, 0, []) : xm_I) := rfl
theorem r_X9_copy_18 : co_X9_copy[18]? = some ((35, .aload_n 1, 0, 0, 0, 0, 0, 0, []) : xm_I) := rfl
theorem r_X9_copy_19 : co_X9_copy[19]? = some ((36, .getfield 33, 310, 8, 3, 0, 0, 0, []) : xm_I) := rfl
theorem r_X9_copy_20 : co_X9_copy[20]? = some ((39, .putfield 33, 310, 8, 3, 0, 0, 0, []) : xm_I) := rfl
theorem r_X9_copy_21 : co_X9_copy[21]? = some ((42, .aload_n 0, 0, 0, 0, 0, 0, 0, []) : xm_I) := rfl
theorem r_X9_copy_22 : co_X9_copy[22]? = some ((43, .aload_n 1, 0, 0, 0, 0, 0, 0, []) : xm_I) := rfl
theorem r_X9_copy_23 : co_X9_copy[23]? = some ((44, .getfield 36, 313, 8, 4, 0, 0, 0, []) : xm_I) := rfl
theorem r_X9_copy_24 : co_X9_copy[24]? = some ((47, .putfield 36, 313, 8, 4, 0, 0, 0, []) : xm_I) := rfl
theorem r_X9_copy_25 : co_X9_copy[25]? = some ((50, .return_, 0, 0, 0, 0, 0, 0, []) : xm_I) := rfl
theorem p_X9_copy_0_0 {X : xm_X} {P : List xm_M} {d : Nat} {h : xm_H} {l0 : Nat} {l1 : Nat} {v0 : Nat} {v1 : Nat} {h2 : xm_H} {v3 : Nat} {v4 : Nat} {n5 : Nat} {n6 : Nat} (q0 : X.1[l0]? = some (.inr 8)) (q1 : h.2.2 l0 0 = some v0) (q2 : X.1[l1]? = some (.inr 8)) (q3 : h.2.2 l1 0 = some v1) (q4 : xm_V X P d 178 [.ref v0, .ref v1] h none h2) (q5 : X.1[v0]? = some (.inr 0)) (q6 : h2.2.2 l1 1 = some v3) (q7 : h2.2.2 l0 1 = some v4) (q8 : X.1[v3]? = some (.inl (0, n5))) (q9 : X.1[v4]? = some (.inl (0, n6))) (q10 : ¬ ((0 : Int32) < 0 ∨ (0 : Int32) < 0 ∨ (60 : Int32) < 0 ∨ n5 < (0 : Int32).toNatClampNeg + (60 : Int32).toNatClampNeg ∨ n6 < (0 : Int32).toNatClampNeg + (60 : Int32).toNatClampNeg ∨ 8 < (([] : List Value).map fun v => v.category).sum)) : xm_E X P d co_X9_copy 0 [some (.ref l0), some (.ref l1)] [] h none (xm_si (xm_si (xm_si (xm_ci_cpy h2 v3 v4 (0 : Int32).toNatClampNeg (0 : Int32).toNatClampNeg (60 : Int32).toNatClampNeg) l0 2 ((xm_ci_cpy h2 v3 v4 (0 : Int32).toNatClampNeg (0 : Int32).toNatClampNeg (60 : Int32).toNatClampNeg).1 l1 2)) l0 3 ((xm_si (xm_ci_cpy h2 v3 v4 (0 : Int32).toNatClampNeg (0 : Int32).toNatClampNeg (60 : Int32).toNatClampNeg) l0 2 ((xm_ci_cpy h2 v3 v4 (0 : Int32).toNatClampNeg (0 : Int32).toNatClampNeg (60 : Int32).toNatClampNeg).1 l1 2)).1 l1 3)) l0 4 ((xm_si (xm_si (xm_ci_cpy h2 v3 v4 (0 : Int32).toNatClampNeg (0 : Int32).toNatClampNeg (60 : Int32).toNatClampNeg) l0 2 ((xm_ci_cpy h2 v3 v4 (0 : Int32).toNatClampNeg (0 : Int32).toNatClampNeg (60 : Int32).toNatClampNeg).1 l1 2)) l0 3 ((xm_si (xm_ci_cpy h2 v3 v4 (0 : Int32).toNatClampNeg (0 : Int32).toNatClampNeg (60 : Int32).toNatClampNeg) l0 2 ((xm_ci_cpy h2 v3 v4 (0 : Int32).toNatClampNeg (0 : Int32).toNatClampNeg (60 : Int32).toNatClampNeg).1 l1 2)).1 l1 3)).1 l1 4)) := by
  refine xm_E_s r_X9_copy_0 rfl rfl ?_
  refine xm_E_s r_X9_copy_1 rfl (xm_T_gr rfl q0 rfl rfl q1) ?_
  refine xm_E_s r_X9_copy_2 rfl rfl ?_
  refine xm_E_s r_X9_copy_3 rfl (xm_T_gr rfl q2 rfl rfl q3) ?_
  refine xm_E_cv [.ref v0, .ref v1] [] r_X9_copy_4 rfl rfl (Nat.le_of_ble_eq_true rfl) (xm_rc q5 (by decide)) rfl q4 ?_
  refine xm_E_s r_X9_copy_5 rfl rfl ?_
  refine xm_E_s r_X9_copy_6 rfl (xm_T_gr rfl q2 rfl rfl q6) ?_
  refine xm_E_s r_X9_copy_7 rfl rfl ?_
  refine xm_E_s r_X9_copy_8 rfl rfl ?_
  refine xm_E_s r_X9_copy_9 rfl (xm_T_gr rfl q0 rfl rfl q7) ?_
  refine xm_E_s r_X9_copy_10 rfl rfl ?_
  refine xm_E_s r_X9_copy_11 rfl rfl ?_
  refine xm_E_s r_X9_copy_12 rfl (xm_T_cpi rfl rfl q8 q9 q10) ?_
  refine xm_E_s r_X9_copy_13 rfl rfl ?_
  refine xm_E_s r_X9_copy_14 rfl rfl ?_
  refine xm_E_s r_X9_copy_15 rfl (xm_T_gi rfl q2 rfl (Or.inl rfl)) ?_
  refine xm_E_s r_X9_copy_16 rfl (xm_T_pi rfl q0 rfl rfl) ?_
  refine xm_E_s r_X9_copy_17 rfl rfl ?_
  refine xm_E_s r_X9_copy_18 rfl rfl ?_
  refine xm_E_s r_X9_copy_19 rfl (xm_T_gi rfl q2 rfl (Or.inl rfl)) ?_
  refine xm_E_s r_X9_copy_20 rfl (xm_T_pi rfl q0 rfl rfl) ?_
  refine xm_E_s r_X9_copy_21 rfl rfl ?_
  refine xm_E_s r_X9_copy_22 rfl rfl ?_
  refine xm_E_s r_X9_copy_23 rfl (xm_T_gi rfl q2 rfl (Or.inl rfl)) ?_
  refine xm_E_s r_X9_copy_24 rfl (xm_T_pi rfl q0 rfl rfl) ?_
  exact xm_E_ret r_X9_copy_25 rfl
theorem r_X0_copy_0 : co_X0_copy[0]? = some ((0, .aload_n 0, 0, 0, 0, 0, 0, 0, []) : xm_I) := rfl
theorem r_X0_copy_1 : co_X0_copy[1]? = some ((1, .aload_n 1, 0, 0, 0, 0, 0, 0, []) : xm_I) := rfl
theorem r_X0_copy_2 : co_X0_copy[2]? = some ((2, .getfield 37, 206, 0, 0, 0, 0, 0, []) : xm_I) := rfl
theorem r_X0_copy_3 : co_X0_copy[3]? = some ((5, .putfield 37, 206, 0, 0, 0, 0, 0, []) : xm_I) := rfl
theorem r_X0_copy_4 : co_X0_copy[4]? = some ((8, .aload_n 0, 0, 0, 0, 0, 0, 0, []) : xm_I) := rfl
theorem r_X0_copy_5 : co_X0_copy[5]? = some ((9, .aload_n 1, 0, 0, 0, 0, 0, 0, []) : xm_I) := rfl
theorem r_X0_copy_6 : co_X0_copy[6]? = some ((10, .getfield 41, 210, 0, 1, 0, 0, 0, []) : xm_I) := rfl
theorem r_X0_copy_7 : co_X0_copy[7]? = some ((13, .putfield 41, 210, 0, 1, 0, 0, 0, []) : xm_I) := rfl
theorem r_X0_copy_8 : co_X0_copy[8]? = some ((16, .aload_n 0, 0, 0, 0, 0, 0, 0, []) : xm_I) := rfl
theorem r_X0_copy_9 : co_X0_copy[9]? = some ((17, .aload_n 1, 0, 0, 0, 0, 0, 0, []) : xm_I) := rfl
theorem r_X0_copy_10 : co_X0_copy[10]? = some ((18, .getfield 44, 212, 0, 2, 0, 0, 0, []) : xm_I) := rfl
theorem r_X0_copy_11 : co_X0_copy[11]? = some ((21, .putfield 44, 212, 0, 2, 0, 0, 0, []) : xm_I) := rfl
theorem r_X0_copy_12 : co_X0_copy[12]? = some ((24, .aload_n 0, 0, 0, 0, 0, 0, 0, []) : xm_I) := rfl
theorem r_X0_copy_13 : co_X0_copy[13]? = some ((25, .aload_n 1, 0, 0, 0, 0, 0, 0, []) : xm_I) := rfl
theorem r_X0_copy_14 : co_X0_copy[14]? = some ((26, .getfield 47, 214, 0, 3, 0, 0, 0, []) : xm_I) := rfl
theorem r_X0_copy_15 : co_X0_copy[15]? = some ((29, .putfield 47, 214, 0, 3, 0, 0, 0, []) : xm_I) := rfl
theorem r_X0_copy_16 : co_X0_copy[16]? = some ((32, .aload_n 0, 0, 0, 0, 0, 0, 0, []) : xm_I) := rfl
theorem r_X0_copy_17 : co_X0_copy[17]? = some ((33, .aload_n 1, 0, 0, 0, 0, 0, 0, []) : xm_I) := rfl
theorem r_X0_copy_18 : co_X0_copy[18]? = some ((34, .getfield 50, 216, 0, 4, 0, 0, 0, []) : xm_I) := rfl
theorem r_X0_copy_19 : co_X0_copy[19]? = some ((37, .putfield 50, 216, 0, 4, 0, 0, 0, []) : xm_I) := rfl
theorem r_X0_copy_20 : co_X0_copy[20]? = some ((40, .aload_n 0, 0, 0, 0, 0, 0, 0, []) : xm_I) := rfl
theorem r_X0_copy_21 : co_X0_copy[21]? = some ((41, .aload_n 1, 0, 0, 0, 0, 0, 0, []) : xm_I) := rfl
theorem r_X0_copy_22 : co_X0_copy[22]? = some ((42, .getfield 53, 221, 0, 5, 0, 0, 0, []) : xm_I) := rfl
theorem r_X0_copy_23 : co_X0_copy[23]? = some ((45, .putfield 53, 221, 0, 5, 0, 0, 0, []) : xm_I) := rfl
theorem r_X0_copy_24 : co_X0_copy[24]? = some ((48, .aload_n 0, 0, 0, 0, 0, 0, 0, []) : xm_I) := rfl
theorem r_X0_copy_25 : co_X0_copy[25]? = some ((49, .aload_n 1, 0, 0, 0, 0, 0, 0, []) : xm_I) := rfl
theorem r_X0_copy_26 : co_X0_copy[26]? = some ((50, .getfield 56, 224, 0, 6, 0, 0, 0, []) : xm_I) := rfl
theorem r_X0_copy_27 : co_X0_copy[27]? = some ((53, .putfield 56, 224, 0, 6, 0, 0, 0, []) : xm_I) := rfl
theorem r_X0_copy_28 : co_X0_copy[28]? = some ((56, .aload_n 0, 0, 0, 0, 0, 0, 0, []) : xm_I) := rfl
theorem r_X0_copy_29 : co_X0_copy[29]? = some ((57, .aload_n 1, 0, 0, 0, 0, 0, 0, []) : xm_I) := rfl
theorem r_X0_copy_30 : co_X0_copy[30]? = some ((58, .getfield 59, 227, 0, 7, 0, 0, 0, []) : xm_I) := rfl
theorem r_X0_copy_31 : co_X0_copy[31]? = some ((61, .putfield 59, 227, 0, 7, 0, 0, 0, []) : xm_I) := rfl
theorem r_X0_copy_32 : co_X0_copy[32]? = some ((64, .aload_n 0, 0, 0, 0, 0, 0, 0, []) : xm_I) := rfl
theorem r_X0_copy_33 : co_X0_copy[33]? = some ((65, .aload_n 1, 0, 0, 0, 0, 0, 0, []) : xm_I) := rfl
theorem r_X0_copy_34 : co_X0_copy[34]? = some ((66, .getfield 62, 231, 0, 8, 0, 0, 0, []) : xm_I) := rfl
theorem r_X0_copy_35 : co_X0_copy[35]? = some ((69, .putfield 62, 231, 0, 8, 0, 0, 0, []) : xm_I) := rfl
theorem r_X0_copy_36 : co_X0_copy[36]? = some ((72, .aload_n 0, 0, 0, 0, 0, 0, 0, []) : xm_I) := rfl
theorem r_X0_copy_37 : co_X0_copy[37]? = some ((73, .getfield 12, 246, 0, 12, 2, 0, 0, []) : xm_I) := rfl
theorem r_X0_copy_38 : co_X0_copy[38]? = some ((76, .aload_n 1, 0, 0, 0, 0, 0, 0, []) : xm_I) := rfl
theorem r_X0_copy_39 : co_X0_copy[39]? = some ((77, .getfield 12, 246, 0, 12, 2, 0, 0, []) : xm_I) := rfl
theorem r_X0_copy_40 : co_X0_copy[40]? = some ((80, .invokevirtual 83, 1325, 179, 2, 7, 0, 0, []) : xm_I) := rfl
theorem r_X0_copy_41 : co_X0_copy[41]? = some ((83, .aload_n 0, 0, 0, 0, 0, 0, 0, []) : xm_I) := rfl
theorem r_X0_copy_42 : co_X0_copy[42]? = some ((84, .aload_n 1, 0, 0, 0, 0, 0, 0, []) : xm_I) := rfl
theorem r_X0_copy_43 : co_X0_copy[43]? = some ((85, .getfield 68, 235, 0, 9, 0, 0, 0, []) : xm_I) := rfl
theorem r_X0_copy_44 : co_X0_copy[44]? = some ((88, .putfield 68, 235, 0, 9, 0, 0, 0, []) : xm_I) := rfl
theorem r_X0_copy_45 : co_X0_copy[45]? = some ((91, .aload_n 0, 0, 0, 0, 0, 0, 0, []) : xm_I) := rfl
theorem r_X0_copy_46 : co_X0_copy[46]? = some ((92, .aload_n 1, 0, 0, 0, 0, 0, 0, []) : xm_I) := rfl
theorem r_X0_copy_47 : co_X0_copy[47]? = some ((93, .getfield 71, 239, 0, 10, 0, 0, 0, []) : xm_I) := rfl
theorem r_X0_copy_48 : co_X0_copy[48]? = some ((96, .putfield 71, 239, 0, 10, 0, 0, 0, []) : xm_I) := rfl
theorem r_X0_copy_49 : co_X0_copy[49]? = some ((99, .aload_n 0, 0, 0, 0, 0, 0, 0, []) : xm_I) := rfl
theorem r_X0_copy_50 : co_X0_copy[50]? = some ((100, .aload_n 1, 0, 0, 0, 0, 0, 0, []) : xm_I) := rfl
theorem r_X0_copy_51 : co_X0_copy[51]? = some ((101, .getfield 74, 243, 0, 11, 0, 0, 0, []) : xm_I) := rfl
theorem r_X0_copy_52 : co_X0_copy[52]? = some ((104, .putfield 74, 243, 0, 11, 0, 0, 0, []) : xm_I) := rfl
theorem r_X0_copy_53 : co_X0_copy[53]? = some ((107, .aload_n 1, 0, 0, 0, 0, 0, 0, []) : xm_I) := rfl
theorem r_X0_copy_54 : co_X0_copy[54]? = some ((108, .getfield 18, 250, 0, 13, 2, 0, 0, []) : xm_I) := rfl
theorem r_X0_copy_55 : co_X0_copy[55]? = some ((111, .aload_n 0, 0, 0, 0, 0, 0, 0, []) : xm_I) := rfl
theorem r_X0_copy_56 : co_X0_copy[56]? = some ((112, .getfield 18, 250, 0, 13, 2, 0, 0, []) : xm_I) := rfl
theorem r_X0_copy_57 : co_X0_copy[57]? = some ((115, .invokestatic 87, 1329, 180, 2, 0, 0, 0, []) : xm_I) := rfl
theorem r_X0_copy_58 : co_X0_copy[58]? = some ((118, .aload_n 1, 0, 0, 0, 0, 0, 0, []) : xm_I) := rfl
theorem r_X0_copy_59 : co_X0_copy[59]? = some ((119, .getfield 22, 252, 0, 14, 2, 0, 0, []) : xm_I) := rfl
theorem r_X0_copy_60 : co_X0_copy[60]? = some ((122, .aload_n 0, 0, 0, 0, 0, 0, 0, []) : xm_I) := rfl
theorem r_X0_copy_61 : co_X0_copy[61]? = some ((123, .getfield 22, 252, 0, 14, 2, 0, 0, []) : xm_I) := rfl
theorem r_X0_copy_62 : co_X0_copy[62]? = some ((126, .invokestatic 87, 1329, 180, 2, 0, 0, 0, []) : xm_I) := rfl
theorem r_X0_copy_63 : co_X0_copy[63]? = some ((129, .aload_n 1, 0, 0, 0, 0, 0, 0, []) : xm_I) := rfl
theorem r_X0_copy_64 : co_X0_copy[64]? = some ((130, .getfield 25, 254, 0, 15, 2, 0, 0, []) : xm_I) := rfl
theorem r_X0_copy_65 : co_X0_copy[65]? = some ((133, .aload_n 0, 0, 0, 0, 0, 0, 0, []) : xm_I) := rfl
theorem r_X0_copy_66 : co_X0_copy[66]? = some ((134, .getfield 25, 254, 0, 15, 2, 0, 0, []) : xm_I) := rfl
theorem r_X0_copy_67 : co_X0_copy[67]? = some ((137, .invokestatic 87, 1329, 180, 2, 0, 0, 0, []) : xm_I) := rfl
theorem r_X0_copy_68 : co_X0_copy[68]? = some ((140, .aload_n 1, 0, 0, 0, 0, 0, 0, []) : xm_I) := rfl
theorem r_X0_copy_69 : co_X0_copy[69]? = some ((141, .getfield 28, 256, 0, 16, 2, 0, 0, []) : xm_I) := rfl
theorem r_X0_copy_70 : co_X0_copy[70]? = some ((144, .aload_n 0, 0, 0, 0, 0, 0, 0, []) : xm_I) := rfl
theorem r_X0_copy_71 : co_X0_copy[71]? = some ((145, .getfield 28, 256, 0, 16, 2, 0, 0, []) : xm_I) := rfl
theorem r_X0_copy_72 : co_X0_copy[72]? = some ((148, .invokestatic 87, 1329, 180, 2, 0, 0, 0, []) : xm_I) := rfl
theorem r_X0_copy_73 : co_X0_copy[73]? = some ((151, .aload_n 1, 0, 0, 0, 0, 0, 0, []) : xm_I) := rfl
theorem r_X0_copy_74 : co_X0_copy[74]? = some ((152, .getfield 31, 258, 0, 17, 2, 0, 0, []) : xm_I) := rfl
theorem r_X0_copy_75 : co_X0_copy[75]? = some ((155, .aload_n 0, 0, 0, 0, 0, 0, 0, []) : xm_I) := rfl
theorem r_X0_copy_76 : co_X0_copy[76]? = some ((156, .getfield 31, 258, 0, 17, 2, 0, 0, []) : xm_I) := rfl
theorem r_X0_copy_77 : co_X0_copy[77]? = some ((159, .invokestatic 87, 1329, 180, 2, 0, 0, 0, []) : xm_I) := rfl
theorem r_X0_copy_78 : co_X0_copy[78]? = some ((162, .aload_n 1, 0, 0, 0, 0, 0, 0, []) : xm_I) := rfl
theorem r_X0_copy_79 : co_X0_copy[79]? = some ((163, .getfield 34, 260, 0, 18, 2, 0, 0, []) : xm_I) := rfl
theorem r_X0_copy_80 : co_X0_copy[80]? = some ((166, .aload_n 0, 0, 0, 0, 0, 0, 0, []) : xm_I) := rfl
theorem r_X0_copy_81 : co_X0_copy[81]? = some ((167, .getfield 34, 260, 0, 18, 2, 0, 0, []) : xm_I) := rfl
theorem r_X0_copy_82 : co_X0_copy[82]? = some ((170, .invokestatic 87, 1329, 180, 2, 0, 0, 0, []) : xm_I) := rfl
theorem r_X0_copy_83 : co_X0_copy[83]? = some ((173, .return_, 0, 0, 0, 0, 0, 0, []) : xm_I) := rfl
theorem p_X0_copy_0_0 {X : xm_X} {P : List xm_M} {d : Nat} {h : xm_H} {l0 : Nat} {l1 : Nat} {v0 : Nat} {v1 : Nat} {h2 : xm_H} {v3 : Nat} {v4 : Nat} {h5 : xm_H} {v6 : Nat} {v7 : Nat} {h8 : xm_H} {v9 : Nat} {v10 : Nat} {h11 : xm_H} {v12 : Nat} {v13 : Nat} {h14 : xm_H} {v15 : Nat} {v16 : Nat} {h17 : xm_H} {v18 : Nat} {v19 : Nat} {h20 : xm_H} (q0 : X.1[l1]? = some (.inr 0)) (q1 : X.1[l0]? = some (.inr 0)) (q2 : (xm_si (xm_si (xm_si (xm_si (xm_si (xm_si (xm_si (xm_si (xm_si h l0 0 (h.1 l1 0)) l0 1 ((xm_si h l0 0 (h.1 l1 0)).1 l1 1)) l0 2 ((xm_si (xm_si h l0 0 (h.1 l1 0)) l0 1 ((xm_si h l0 0 (h.1 l1 0)).1 l1 1)).1 l1 2)) l0 3 ((xm_si (xm_si (xm_si h l0 0 (h.1 l1 0)) l0 1 ((xm_si h l0 0 (h.1 l1 0)).1 l1 1)) l0 2 ((xm_si (xm_si h l0 0 (h.1 l1 0)) l0 1 ((xm_si h l0 0 (h.1 l1 0)).1 l1 1)).1 l1 2)).1 l1 3)) l0 4 ((xm_si (xm_si (xm_si (xm_si h l0 0 (h.1 l1 0)) l0 1 ((xm_si h l0 0 (h.1 l1 0)).1 l1 1)) l0 2 ((xm_si (xm_si h l0 0 (h.1 l1 0)) l0 1 ((xm_si h l0 0 (h.1 l1 0)).1 l1 1)).1 l1 2)) l0 3 ((xm_si (xm_si (xm_si h l0 0 (h.1 l1 0)) l0 1 ((xm_si h l0 0 (h.1 l1 0)).1 l1 1)) l0 2 ((xm_si (xm_si h l0 0 (h.1 l1 0)) l0 1 ((xm_si h l0 0 (h.1 l1 0)).1 l1 1)).1 l1 2)).1 l1 3)).1 l1 4)) l0 5 ((xm_si (xm_si (xm_si (xm_si (xm_si h l0 0 (h.1 l1 0)) l0 1 ((xm_si h l0 0 (h.1 l1 0)).1 l1 1)) l0 2 ((xm_si (xm_si h l0 0 (h.1 l1 0)) l0 1 ((xm_si h l0 0 (h.1 l1 0)).1 l1 1)).1 l1 2)) l0 3 ((xm_si (xm_si (xm_si h l0 0 (h.1 l1 0)) l0 1 ((xm_si h l0 0 (h.1 l1 0)).1 l1 1)) l0 2 ((xm_si (xm_si h l0 0 (h.1 l1 0)) l0 1 ((xm_si h l0 0 (h.1 l1 0)).1 l1 1)).1 l1 2)).1 l1 3)) l0 4 ((xm_si (xm_si (xm_si (xm_si h l0 0 (h.1 l1 0)) l0 1 ((xm_si h l0 0 (h.1 l1 0)).1 l1 1)) l0 2 ((xm_si (xm_si h l0 0 (h.1 l1 0)) l0 1 ((xm_si h l0 0 (h.1 l1 0)).1 l1 1)).1 l1 2)) l0 3 ((xm_si (xm_si (xm_si h l0 0 (h.1 l1 0)) l0 1 ((xm_si h l0 0 (h.1 l1 0)).1 l1 1)) l0 2 ((xm_si (xm_si h l0 0 (h.1 l1 0)) l0 1 ((xm_si h l0 0 (h.1 l1 0)).1 l1 1)).1 l1 2)).1 l1 3)).1 l1 4)).1 l1 5)) l0 6 ((xm_si (xm_si (xm_si (xm_si (xm_si (xm_si h l0 0 (h.1 l1 0)) l0 1 ((xm_si h l0 0 (h.1 l1 0)).1 l1 1)) l0 2 ((xm_si (xm_si h l0 0 (h.1 l1 0)) l0 1 ((xm_si h l0 0 (h.1 l1 0)).1 l1 1)).1 l1 2)) l0 3 ((xm_si (xm_si (xm_si h l0 0 (h.1 l1 0)) l0 1 ((xm_si h l0 0 (h.1 l1 0)).1 l1 1)) l0 2 ((xm_si (xm_si h l0 0 (h.1 l1 0)) l0 1 ((xm_si h l0 0 (h.1 l1 0)).1 l1 1)).1 l1 2)).1 l1 3)) l0 4 ((xm_si (xm_si (xm_si (xm_si h l0 0 (h.1 l1 0)) l0 1 ((xm_si h l0 0 (h.1 l1 0)).1 l1 1)) l0 2 ((xm_si (xm_si h l0 0 (h.1 l1 0)) l0 1 ((xm_si h l0 0 (h.1 l1 0)).1 l1 1)).1 l1 2)) l0 3 ((xm_si (xm_si (xm_si h l0 0 (h.1 l1 0)) l0 1 ((xm_si h l0 0 (h.1 l1 0)).1 l1 1)) l0 2 ((xm_si (xm_si h l0 0 (h.1 l1 0)) l0 1 ((xm_si h l0 0 (h.1 l1 0)).1 l1 1)).1 l1 2)).1 l1 3)).1 l1 4)) l0 5 ((xm_si (xm_si (xm_si (xm_si (xm_si h l0 0 (h.1 l1 0)) l0 1 ((xm_si h l0 0 (h.1 l1 0)).1 l1 1)) l0 2 ((xm_si (xm_si h l0 0 (h.1 l1 0)) l0 1 ((xm_si h l0 0 (h.1 l1 0)).1 l1 1)).1 l1 2)) l0 3 ((xm_si (xm_si (xm_si h l0 0 (h.1 l1 0)) l0 1 ((xm_si h l0 0 (h.1 l1 0)).1 l1 1)) l0 2 ((xm_si (xm_si h l0 0 (h.1 l1 0)) l0 1 ((xm_si h l0 0 (h.1 l1 0)).1 l1 1)).1 l1 2)).1 l1 3)) l0 4 ((xm_si (xm_si (xm_si (xm_si h l0 0 (h.1 l1 0)) l0 1 ((xm_si h l0 0 (h.1 l1 0)).1 l1 1)) l0 2 ((xm_si (xm_si h l0 0 (h.1 l1 0)) l0 1 ((xm_si h l0 0 (h.1 l1 0)).1 l1 1)).1 l1 2)) l0 3 ((xm_si (xm_si (xm_si h l0 0 (h.1 l1 0)) l0 1 ((xm_si h l0 0 (h.1 l1 0)).1 l1 1)) l0 2 ((xm_si (xm_si h l0 0 (h.1 l1 0)) l0 1 ((xm_si h l0 0 (h.1 l1 0)).1 l1 1)).1 l1 2)).1 l1 3)).1 l1 4)).1 l1 5)).1 l1 6)) l0 7 ((xm_si (xm_si (xm_si (xm_si (xm_si (xm_si (xm_si h l0 0 (h.1 l1 0)) l0 1 ((xm_si h l0 0 (h.1 l1 0)).1 l1 1)) l0 2 ((xm_si (xm_si h l0 0 (h.1 l1 0)) l0 1 ((xm_si h l0 0 (h.1 l1 0)).1 l1 1)).1 l1 2)) l0 3 ((xm_si (xm_si (xm_si h l0 0 (h.1 l1 0)) l0 1 ((xm_si h l0 0 (h.1 l1 0)).1 l1 1)) l0 2 ((xm_si (xm_si h l0 0 (h.1 l1 0)) l0 1 ((xm_si h l0 0 (h.1 l1 0)).1 l1 1)).1 l1 2)).1 l1 3)) l0 4 ((xm_si (xm_si (xm_si (xm_si h l0 0 (h.1 l1 0)) l0 1 ((xm_si h l0 0 (h.1 l1 0)).1 l1 1)) l0 2 ((xm_si (xm_si h l0 0 (h.1 l1 0)) l0 1 ((xm_si h l0 0 (h.1 l1 0)).1 l1 1)).1 l1 2)) l0 3 ((xm_si (xm_si (xm_si h l0 0 (h.1 l1 0)) l0 1 ((xm_si h l0 0 (h.1 l1 0)).1 l1 1)) l0 2 ((xm_si (xm_si h l0 0 (h.1 l1 0)) l0 1 ((xm_si h l0 0 (h.1 l1 0)).1 l1 1)).1 l1 2)).1 l1 3)).1 l1 4)) l0 5 ((xm_si (xm_si (xm_si (xm_si (xm_si h l0 0 (h.1 l1 0)) l0 1 ((xm_si h l0 0 (h.1 l1 0)).1 l1 1)) l0 2 ((xm_si (xm_si h l0 0 (h.1 l1 0)) l0 1 ((xm_si h l0 0 (h.1 l1 0)).1 l1 1)).1 l1 2)) l0 3 ((xm_si (xm_si (xm_si h l0 0 (h.1 l1 0)) l0 1 ((xm_si h l0 0 (h.1 l1 0)).1 l1 1)) l0 2 ((xm_si (xm_si h l0 0 (h.1 l1 0)) l0 1 ((xm_si h l0 0 (h.1 l1 0)).1 l1 1)).1 l1 2)).1 l1 3)) l0 4 ((xm_si (xm_si (xm_si (xm_si h l0 0 (h.1 l1 0)) l0 1 ((xm_si h l0 0 (h.1 l1 0)).1 l1 1)) l0 2 ((xm_si (xm_si h l0 0 (h.1 l1 0)) l0 1 ((xm_si h l0 0 (h.1 l1 0)).1 l1 1)).1 l1 2)) l0 3 ((xm_si (xm_si (xm_si h l0 0 (h.1 l1 0)) l0 1 ((xm_si h l0 0 (h.1 l1 0)).1 l1 1)) l0 2 ((xm_si (xm_si h l0 0 (h.1 l1 0)) l0 1 ((xm_si h l0 0 (h.1 l1 0)).1 l1 1)).1 l1 2)).1 l1 3)).1 l1 4)).1 l1 5)) l0 6 ((xm_si (xm_si (xm_si (xm_si (xm_si (xm_si h l0 0 (h.1 l1 0)) l0 1 ((xm_si h l0 0 (h.1 l1 0)).1 l1 1)) l0 2 ((xm_si (xm_si h l0 0 (h.1 l1 0)) l0 1 ((xm_si h l0 0 (h.1 l1 0)).1 l1 1)).1 l1 2)) l0 3 ((xm_si (xm_si (xm_si h l0 0 (h.1 l1 0)) l0 1 ((xm_si h l0 0 (h.1 l1 0)).1 l1 1)) l0 2 ((xm_si (xm_si h l0 0 (h.1 l1 0)) l0 1 ((xm_si h l0 0 (h.1 l1 0)).1 l1 1)).1 l1 2)).1 l1 3)) l0 4 ((xm_si (xm_si (xm_si (xm_si h l0 0 (h.1 l1 0)) l0 1 ((xm_si h l0 0 (h.1 l1 0)).1 l1 1)) l0 2 ((xm_si (xm_si h l0 0 (h.1 l1 0)) l0 1 ((xm_si h l0 0 (h.1 l1 0)).1 l1 1)).1 l1 2)) l0 3 ((xm_si (xm_si (xm_si h l0 0 (h.1 l1 0)) l0 1 ((xm_si h l0 0 (h.1 l1 0)).1 l1 1)) l0 2 ((xm_si (xm_si h l0 0 (h.1 l1 0)) l0 1 ((xm_si h l0 0 (h.1 l1 0)).1 l1 1)).1 l1 2)).1 l1 3)).1 l1 4)) l0 5 ((xm_si (xm_si (xm_si (xm_si (xm_si h l0 0 (h.1 l1 0)) l0 1 ((xm_si h l0 0 (h.1 l1 0)).1 l1 1)) l0 2 ((xm_si (xm_si h l0 0 (h.1 l1 0)) l0 1 ((xm_si h l0 0 (h.1 l1 0)).1 l1 1)).1 l1 2)) l0 3 ((xm_si (xm_si (xm_si h l0 0 (h.1 l1 0)) l0 1 ((xm_si h l0 0 (h.1 l1 0)).1 l1 1)) l0 2 ((xm_si (xm_si h l0 0 (h.1 l1 0)) l0 1 ((xm_si h l0 0 (h.1 l1 0)).1 l1 1)).1 l1 2)).1 l1 3)) l0 4 ((xm_si (xm_si (xm_si (xm_si h l0 0 (h.1 l1 0)) l0 1 ((xm_si h l0 0 (h.1 l1 0)).1 l1 1)) l0 2 ((xm_si (xm_si h l0 0 (h.1 l1 0)) l0 1 ((xm_si h l0 0 (h.1 l1 0)).1 l1 1)).1 l1 2)) l0 3 ((xm_si (xm_si (xm_si h l0 0 (h.1 l1 0)) l0 1 ((xm_si h l0 0 (h.1 l1 0)).1 l1 1)) l0 2 ((xm_si (xm_si h l0 0 (h.1 l1 0)) l0 1 ((xm_si h l0 0 (h.1 l1 0)).1 l1 1)).1 l1 2)).1 l1 3)).1 l1 4)).1 l1 5)).1 l1 6)).1 l1 7)) l0 8 ((xm_si (xm_si (xm_si (xm_si (xm_si (xm_si (xm_si (xm_si h l0 0 (h.1 l1 0)) l0 1 ((xm_si h l0 0 (h.1 l1 0)).1 l1 1)) l0 2 ((xm_si (xm_si h l0 0 (h.1 l1 0)) l0 1 ((xm_si h l0 0 (h.1 l1 0)).1 l1 1)).1 l1 2)) l0 3 ((xm_si (xm_si (xm_si h l0 0 (h.1 l1 0)) l0 1 ((xm_si h l0 0 (h.1 l1 0)).1 l1 1)) l0 2 ((xm_si (xm_si h l0 0 (h.1 l1 0)) l0 1 ((xm_si h l0 0 (h.1 l1 0)).1 l1 1)).1 l1 2)).1 l1 3)) l0 4 ((xm_si (xm_si (xm_si (xm_si h l0 0 (h.1 l1 0)) l0 1 ((xm_si h l0 0 (h.1 l1 0)).1 l1 1)) l0 2 ((xm_si (xm_si h l0 0 (h.1 l1 0)) l0 1 ((xm_si h l0 0 (h.1 l1 0)).1 l1 1)).1 l1 2)) l0 3 ((xm_si (xm_si (xm_si h l0 0 (h.1 l1 0)) l0 1 ((xm_si h l0 0 (h.1 l1 0)).1 l1 1)) l0 2 ((xm_si (xm_si h l0 0 (h.1 l1 0)) l0 1 ((xm_si h l0 0 (h.1 l1 0)).1 l1 1)).1 l1 2)).1 l1 3)).1 l1 4)) l0 5 ((xm_si (xm_si (xm_si (xm_si (xm_si h l0 0 (h.1 l1 0)) l0 1 ((xm_si h l0 0 (h.1 l1 0)).1 l1 1)) l0 2 ((xm_si (xm_si h l0 0 (h.1 l1 0)) l0 1 ((xm_si h l0 0 (h.1 l1 0)).1 l1 1)).1 l1 2)) l0 3 ((xm_si (xm_si (xm_si h l0 0 (h.1 l1 0)) l0 1 ((xm_si h l0 0 (h.1 l1 0)).1 l1 1)) l0 2 ((xm_si (xm_si h l0 0 (h.1 l1 0)) l0 1 ((xm_si h l0 0 (h.1 l1 0)).1 l1 1)).1 l1 2)).1 l1 3)) l0 4 ((xm_si (xm_si (xm_si (xm_si h l0 0 (h.1 l1 0)) l0 1 ((xm_si h l0 0 (h.1 l1 0)).1 l1 1)) l0 2 ((xm_si (xm_si h l0 0 (h.1 l1 0)) l0 1 ((xm_si h l0 0 (h.1 l1 0)).1 l1 1)).1 l1 2)) l0 3 ((xm_si (xm_si (xm_si h l0 0 (h.1 l1 0)) l0 1 ((xm_si h l0 0 (h.1 l1 0)).1 l1 1)) l0 2 ((xm_si (xm_si h l0 0 (h.1 l1 0)) l0 1 ((xm_si h l0 0 (h.1 l1 0)).1 l1 1)).1 l1 2)).1 l1 3)).1 l1 4)).1 l1 5)) l0 6 ((xm_si (xm_si (xm_si (xm_si (xm_si (xm_si h l0 0 (h.1 l1 0)) l0 1 ((xm_si h l0 0 (h.1 l1 0)).1 l1 1)) l0 2 ((xm_si (xm_si h l0 0 (h.1 l1 0)) l0 1 ((xm_si h l0 0 (h.1 l1 0)).1 l1 1)).1 l1 2)) l0 3 ((xm_si (xm_si (xm_si h l0 0 (h.1 l1 0)) l0 1 ((xm_si h l0 0 (h.1 l1 0)).1 l1 1)) l0 2 ((xm_si (xm_si h l0 0 (h.1 l1 0)) l0 1 ((xm_si h l0 0 (h.1 l1 0)).1 l1 1)).1 l1 2)).1 l1 3)) l0 4 ((xm_si (xm_si (xm_si (xm_si h l0 0 (h.1 l1 0)) l0 1 ((xm_si h l0 0 (h.1 l1 0)).1 l1 1)) l0 2 ((xm_si (xm_si h l0 0 (h.1 l1 0)) l0 1 ((xm_si h l0 0 (h.1 l1 0)).1 l1 1)).1 l1 2)) l0 3 ((xm_si (xm_si (xm_si h l0 0 (h.1 l1 0)) l0 1 ((xm_si h l0 0 (h.1 l1 0)).1 l1 1)) l0 2 ((xm_si (xm_si h l0 0 (h.1 l1 0)) l0 1 ((xm_si h l0 0 (h.1 l1 0)).1 l1 1)).1 l1 2)).1 l1 3)).1 l1 4)) l0 5 ((xm_si (xm_si (xm_si (xm_si (xm_si h l0 0 (h.1 l1 0)) l0 1 ((xm_si h l0 0 (h.1 l1 0)).1 l1 1)) l0 2 ((xm_si (xm_si h l0 0 (h.1 l1 0)) l0 1 ((xm_si h l0 0 (h.1 l1 0)).1 l1 1)).1 l1 2)) l0 3 ((xm_si (xm_si (xm_si h l0 0 (h.1 l1 0)) l0 1 ((xm_si h l0 0 (h.1 l1 0)).1 l1 1)) l0 2 ((xm_si (xm_si h l0 0 (h.1 l1 0)) l0 1 ((xm_si h l0 0 (h.1 l1 0)).1 l1 1)).1 l1 2)).1 l1 3)) l0 4 ((xm_si (xm_si (xm_si (xm_si h l0 0 (h.1 l1 0)) l0 1 ((xm_si h l0 0 (h.1 l1 0)).1 l1 1)) l0 2 ((xm_si (xm_si h l0 0 (h.1 l1 0)) l0 1 ((xm_si h l0 0 (h.1 l1 0)).1 l1 1)).1 l1 2)) l0 3 ((xm_si (xm_si (xm_si h l0 0 (h.1 l1 0)) l0 1 ((xm_si h l0 0 (h.1 l1 0)).1 l1 1)) l0 2 ((xm_si (xm_si h l0 0 (h.1 l1 0)) l0 1 ((xm_si h l0 0 (h.1 l1 0)).1 l1 1)).1 l1 2)).1 l1 3)).1 l1 4)).1 l1 5)).1 l1 6)) l0 7 ((xm_si (xm_si (xm_si (xm_si (xm_si (xm_si (xm_si h l0 0 (h.1 l1 0)) l0 1 ((xm_si h l0 0 (h.1 l1 0)).1 l1 1)) l0 2 ((xm_si (xm_si h l0 0 (h.1 l1 0)) l0 1 ((xm_si h l0 0 (h.1 l1 0)).1 l1 1)).1 l1 2)) l0 3 ((xm_si (xm_si (xm_si h l0 0 (h.1 l1 0)) l0 1 ((xm_si h l0 0 (h.1 l1 0)).1 l1 1)) l0 2 ((xm_si (xm_si h l0 0 (h.1 l1 0)) l0 1 ((xm_si h l0 0 (h.1 l1 0)).1 l1 1)).1 l1 2)).1 l1 3)) l0 4 ((xm_si (xm_si (xm_si (xm_si h l0 0 (h.1 l1 0)) l0 1 ((xm_si h l0 0 (h.1 l1 0)).1 l1 1)) l0 2 ((xm_si (xm_si h l0 0 (h.1 l1 0)) l0 1 ((xm_si h l0 0 (h.1 l1 0)).1 l1 1)).1 l1 2)) l0 3 ((xm_si (xm_si (xm_si h l0 0 (h.1 l1 0)) l0 1 ((xm_si h l0 0 (h.1 l1 0)).1 l1 1)) l0 2 ((xm_si (xm_si h l0 0 (h.1 l1 0)) l0 1 ((xm_si h l0 0 (h.1 l1 0)).1 l1 1)).1 l1 2)).1 l1 3)).1 l1 4)) l0 5 ((xm_si (xm_si (xm_si (xm_si (xm_si h l0 0 (h.1 l1 0)) l0 1 ((xm_si h l0 0 (h.1 l1 0)).1 l1 1)) l0 2 ((xm_si (xm_si h l0 0 (h.1 l1 0)) l0 1 ((xm_si h l0 0 (h.1 l1 0)).1 l1 1)).1 l1 2)) l0 3 ((xm_si (xm_si (xm_si h l0 0 (h.1 l1 0)) l0 1 ((xm_si h l0 0 (h.1 l1 0)).1 l1 1)) l0 2 ((xm_si (xm_si h l0 0 (h.1 l1 0)) l0 1 ((xm_si h l0 0 (h.1 l1 0)).1 l1 1)).1 l1 2)).1 l1 3)) l0 4 ((xm_si (xm_si (xm_si (xm_si h l0 0 (h.1 l1 0)) l0 1 ((xm_si h l0 0 (h.1 l1 0)).1 l1 1)) l0 2 ((xm_si (xm_si h l0 0 (h.1 l1 0)) l0 1 ((xm_si h l0 0 (h.1 l1 0)).1 l1 1)).1 l1 2)) l0 3 ((xm_si (xm_si (xm_si h l0 0 (h.1 l1 0)) l0 1 ((xm_si h l0 0 (h.1 l1 0)).1 l1 1)) l0 2 ((xm_si (xm_si h l0 0 (h.1 l1 0)) l0 1 ((xm_si h l0 0 (h.1 l1 0)).1 l1 1)).1 l1 2)).1 l1 3)).1 l1 4)).1 l1 5)) l0 6 ((xm_si (xm_si (xm_si (xm_si (xm_si (xm_si h l0 0 (h.1 l1 0)) l0 1 ((xm_si h l0 0 (h.1 l1 0)).1 l1 1)) l0 2 ((xm_si (xm_si h l0 0 (h.1 l1 0)) l0 1 ((xm_si h l0 0 (h.1 l1 0)).1 l1 1)).1 l1 2)) l0 3 ((xm_si (xm_si (xm_si h l0 0 (h.1 l1 0)) l0 1 ((xm_si h l0 0 (h.1 l1 0)).1 l1 1)) l0 2 ((xm_si (xm_si h l0 0 (h.1 l1 0)) l0 1 ((xm_si h l0 0 (h.1 l1 0)).1 l1 1)).1 l1 2)).1 l1 3)) l0 4 ((xm_si (xm_si (xm_si (xm_si h l0 0 (h.1 l1 0)) l0 1 ((xm_si h l0 0 (h.1 l1 0)).1 l1 1)) l0 2 ((xm_si (xm_si h l0 0 (h.1 l1 0)) l0 1 ((xm_si h l0 0 (h.1 l1 0)).1 l1 1)).1 l1 2)) l0 3 ((xm_si (xm_si (xm_si h l0 0 (h.1 l1 0)) l0 1 ((xm_si h l0 0 (h.1 l1 0)).1 l1 1)) l0 2 ((xm_si (xm_si h l0 0 (h.1 l1 0)) l0 1 ((xm_si h l0 0 (h.1 l1 0)).1 l1 1)).1 l1 2)).1 l1 3)).1 l1 4)) l0 5 ((xm_si (xm_si (xm_si (xm_si (xm_si h l0 0 (h.1 l1 0)) l0 1 ((xm_si h l0 0 (h.1 l1 0)).1 l1 1)) l0 2 ((xm_si (xm_si h l0 0 (h.1 l1 0)) l0 1 ((xm_si h l0 0 (h.1 l1 0)).1 l1 1)).1 l1 2)) l0 3 ((xm_si (xm_si (xm_si h l0 0 (h.1 l1 0)) l0 1 ((xm_si h l0 0 (h.1 l1 0)).1 l1 1)) l0 2 ((xm_si (xm_si h l0 0 (h.1 l1 0)) l0 1 ((xm_si h l0 0 (h.1 l1 0)).1 l1 1)).1 l1 2)).1 l1 3)) l0 4 ((xm_si (xm_si (xm_si (xm_si h l0 0 (h.1 l1 0)) l0 1 ((xm_si h l0 0 (h.1 l1 0)).1 l1 1)) l0 2 ((xm_si (xm_si h l0 0 (h.1 l1 0)) l0 1 ((xm_si h l0 0 (h.1 l1 0)).1 l1 1)).1 l1 2)) l0 3 ((xm_si (xm_si (xm_si h l0 0 (h.1 l1 0)) l0 1 ((xm_si h l0 0 (h.1 l1 0)).1 l1 1)) l0 2 ((xm_si (xm_si h l0 0 (h.1 l1 0)) l0 1 ((xm_si h l0 0 (h.1 l1 0)).1 l1 1)).1 l1 2)).1 l1 3)).1 l1 4)).1 l1 5)).1 l1 6)).1 l1 7)).1 l1 8)).2.2 l0 12 = some v0) (q3 : (xm_si (xm_si (xm_si (xm_si (xm_si (xm_si (xm_si (xm_si (xm_si h l0 0 (h.1 l1 0)) l0 1 ((xm_si h l0 0 (h.1 l1 0)).1 l1 1)) l0 2 ((xm_si (xm_si h l0 0 (h.1 l1 0)) l0 1 ((xm_si h l0 0 (h.1 l1 0)).1 l1 1)).1 l1 2)) l0 3 ((xm_si (xm_si (xm_si h l0 0 (h.1 l1 0)) l0 1 ((xm_si h l0 0 (h.1 l1 0)).1 l1 1)) l0 2 ((xm_si (xm_si h l0 0 (h.1 l1 0)) l0 1 ((xm_si h l0 0 (h.1 l1 0)).1 l1 1)).1 l1 2)).1 l1 3)) l0 4 ((xm_si (xm_si (xm_si (xm_si h l0 0 (h.1 l1 0)) l0 1 ((xm_si h l0 0 (h.1 l1 0)).1 l1 1)) l0 2 ((xm_si (xm_si h l0 0 (h.1 l1 0)) l0 1 ((xm_si h l0 0 (h.1 l1 0)).1 l1 1)).1 l1 2)) l0 3 ((xm_si (xm_si (xm_si h l0 0 (h.1 l1 0)) l0 1 ((xm_si h l0 0 (h.1 l1 0)).1 l1 1)) l0 2 ((xm_si (xm_si h l0 0 (h.1 l1 0)) l0 1 ((xm_si h l0 0 (h.1 l1 0)).1 l1 1)).1 l1 2)).1 l1 3)).1 l1 4)) l0 5 ((xm_si (xm_si (xm_si (xm_si (xm_si h l0 0 (h.1 l1 0)) l0 1 ((xm_si h l0 0 (h.1 l1 0)).1 l1 1)) l0 2 ((xm_si (xm_si h l0 0 (h.1 l1 0)) l0 1 ((xm_si h l0 0 (h.1 l1 0)).1 l1 1)).1 l1 2)) l0 3 ((xm_si (xm_si (xm_si h l0 0 (h.1 l1 0)) l0 1 ((xm_si h l0 0 (h.1 l1 0)).1 l1 1)) l0 2 ((xm_si (xm_si h l0 0 (h.1 l1 0)) l0 1 ((xm_si h l0 0 (h.1 l1 0)).1 l1 1)).1 l1 2)).1 l1 3)) l0 4 ((xm_si (xm_si (xm_si (xm_si h l0 0 (h.1 l1 0)) l0 1 ((xm_si h l0 0 (h.1 l1 0)).1 l1 1)) l0 2 ((xm_si (xm_si h l0 0 (h.1 l1 0)) l0 1 ((xm_si h l0 0 (h.1 l1 0)).1 l1 1)).1 l1 2)) l0 3 ((xm_si (xm_si (xm_si h l0 0 (h.1 l1 0)) l0 1 ((xm_si h l0 0 (h.1 l1 0)).1 l1 1)) l0 2 ((xm_si (xm_si h l0 0 (h.1 l1 0)) l0 1 ((xm_si h l0 0 (h.1 l1 0)).1 l1 1)).1 l1 2)).1 l1 3)).1 l1 4)).1 l1 5)) l0 6 ((xm_si (xm_si (xm_si (xm_si (xm_si (xm_si h l0 0 (h.1 l1 0)) l0 1 ((xm_si h l0 0 (h.1 l1 0)).1 l1 1)) l0 2 ((xm_si (xm_si h l0 0 (h.1 l1 0)) l0 1 ((xm_si h l0 0 (h.1 l1 0)).1 l1 1)).1 l1 2)) l0 3 ((xm_si (xm_si (xm_si h l0 0 (h.1 l1 0)) l0 1 ((xm_si h l0 0 (h.1 l1 0)).1 l1 1)) l0 2 ((xm_si (xm_si h l0 0 (h.1 l1 0)) l0 1 ((xm_si h l0 0 (h.1 l1 0)).1 l1 1)).1 l1 2)).1 l1 3)) l0 4 ((xm_si (xm_si (xm_si (xm_si h l0 0 (h.1 l1 0)) l0 1 ((xm_si h l0 0 (h.1 l1 0)).1 l1 1)) l0 2 ((xm_si (xm_si h l0 0 (h.1 l1 0)) l0 1 ((xm_si h l0 0 (h.1 l1 0)).1 l1 1)).1 l1 2)) l0 3 ((xm_si (xm_si (xm_si h l0 0 (h.1 l1 0)) l0 1 ((xm_si h l0 0 (h.1 l1 0)).1 l1 1)) l0 2 ((xm_si (xm_si h l0 0 (h.1 l1 0)) l0 1 ((xm_si h l0 0 (h.1 l1 0)).1 l1 1)).1 l1 2)).1 l1 3)).1 l1 4)) l0 5 ((xm_si (xm_si (xm_si (xm_si (xm_si h l0 0 (h.1 l1 0)) l0 1 ((xm_si h l0 0 (h.1 l1 0)).1 l1 1)) l0 2 ((xm_si (xm_si h l0 0 (h.1 l1 0)) l0 1 ((xm_si h l0 0 (h.1 l1 0)).1 l1 1)).1 l1 2)) l0 3 ((xm_si (xm_si (xm_si h l0 0 (h.1 l1 0)) l0 1 ((xm_si h l0 0 (h.1 l1 0)).1 l1 1)) l0 2 ((xm_si (xm_si h l0 0 (h.1 l1 0)) l0 1 ((xm_si h l0 0 (h.1 l1 0)).1 l1 1)).1 l1 2)).1 l1 3)) l0 4 ((xm_si (xm_si (xm_si (xm_si h l0 0 (h.1 l1 0)) l0 1 ((xm_si h l0 0 (h.1 l1 0)).1 l1 1)) l0 2 ((xm_si (xm_si h l0 0 (h.1 l1 0)) l0 1 ((xm_si h l0 0 (h.1 l1 0)).1 l1 1)).1 l1 2)) l0 3 ((xm_si (xm_si (xm_si h l0 0 (h.1 l1 0)) l0 1 ((xm_si h l0 0 (h.1 l1 0)).1 l1 1)) l0 2 ((xm_si (xm_si h l0 0 (h.1 l1 0)) l0 1 ((xm_si h l0 0 (h.1 l1 0)).1 l1 1)).1 l1 2)).1 l1 3)).1 l1 4)).1 l1 5)).1 l1 6)) l0 7 ((xm_si (xm_si (xm_si (xm_si (xm_si (xm_si (xm_si h l0 0 (h.1 l1 0)) l0 1 ((xm_si h l0 0 (h.1 l1 0)).1 l1 1)) l0 2 ((xm_si (xm_si h l0 0 (h.1 l1 0)) l0 1 ((xm_si h l0 0 (h.1 l1 0)).1 l1 1)).1 l1 2)) l0 3 ((xm_si (xm_si (xm_si h l0 0 (h.1 l1 0)) l0 1 ((xm_si h l0 0 (h.1 l1 0)).1 l1 1)) l0 2 ((xm_si (xm_si h l0 0 (h.1 l1 0)) l0 1 ((xm_si h l0 0 (h.1 l1 0)).1 l1 1)).1 l1 2)).1 l1 3)) l0 4 ((xm_si (xm_si (xm_si (xm_si h l0 0 (h.1 l1 0)) l0 1 ((xm_si h l0 0 (h.1 l1 0)).1 l1 1)) l0 2 ((xm_si (xm_si h l0 0 (h.1 l1 0)) l0 1 ((xm_si h l0 0 (h.1 l1 0)).1 l1 1)).1 l1 2)) l0 3 ((xm_si (xm_si (xm_si h l0 0 (h.1 l1 0)) l0 1 ((xm_si h l0 0 (h.1 l1 0)).1 l1 1)) l0 2 ((xm_si (xm_si h l0 0 (h.1 l1 0)) l0 1 ((xm_si h l0 0 (h.1 l1 0)).1 l1 1)).1 l1 2)).1 l1 3)).1 l1 4)) l0 5 ((xm_si (xm_si (xm_si (xm_si (xm_si h l0 0 (h.1 l1 0)) l0 1 ((xm_si h l0 0 (h.1 l1 0)).1 l1 1)) l0 2 ((xm_si (xm_si h l0 0 (h.1 l1 0)) l0 1 ((xm_si h l0 0 (h.1 l1 0)).1 l1 1)).1 l1 2)) l0 3 ((xm_si (xm_si (xm_si h l0 0 (h.1 l1 0)) l0 1 ((xm_si h l0 0 (h.1 l1 0)).1 l1 1)) l0 2 ((xm_si (xm_si h l0 0 (h.1 l1 0)) l0 1 ((xm_si h l0 0 (h.1 l1 0)).1 l1 1)).1 l1 2)).1 l1 3)) l0 4 ((xm_si (xm_si (xm_si (xm_si h l0 0 (h.1 l1 0)) l0 1 ((xm_si h l0 0 (h.1 l1 0)).1 l1 1)) l0 2 ((xm_si (xm_si h l0 0 (h.1 l1 0)) l0 1 ((xm_si h l0 0 (h.1 l1 0)).1 l1 1)).1 l1 2)) l0 3 ((xm_si (xm_si (xm_si h l0 0 (h.1 l1 0)) l0 1 ((xm_si h l0 0 (h.1 l1 0)).1 l1 1)) l0 2 ((xm_si (xm_si h l0 0 (h.1 l1 0)) l0 1 ((xm_si h l0 0 (h.1 l1 0)).1 l1 1)).1 l1 2)).1 l1 3)).1 l1 4)).1 l1 5)) l0 6 ((xm_si (xm_si (xm_si (xm_si (xm_si (xm_si h l0 0 (h.1 l1 0)) l0 1 ((xm_si h l0 0 (h.1 l1 0)).1 l1 1)) l0 2 ((xm_si (xm_si h l0 0 (h.1 l1 0)) l0 1 ((xm_si h l0 0 (h.1 l1 0)).1 l1 1)).1 l1 2)) l0 3 ((xm_si (xm_si (xm_si h l0 0 (h.1 l1 0)) l0 1 ((xm_si h l0 0 (h.1 l1 0)).1 l1 1)) l0 2 ((xm_si (xm_si h l0 0 (h.1 l1 0)) l0 1 ((xm_si h l0 0 (h.1 l1 0)).1 l1 1)).1 l1 2)).1 l1 3)) l0 4 ((xm_si (xm_si (xm_si (xm_si h l0 0 (h.1 l1 0)) l0 1 ((xm_si h l0 0 (h.1 l1 0)).1 l1 1)) l0 2 ((xm_si (xm_si h l0 0 (h.1 l1 0)) l0 1 ((xm_si h l0 0 (h.1 l1 0)).1 l1 1)).1 l1 2)) l0 3 ((xm_si (xm_si (xm_si h l0 0 (h.1 l1 0)) l0 1 ((xm_si h l0 0 (h.1 l1 0)).1 l1 1)) l0 2 ((xm_si (xm_si h l0 0 (h.1 l1 0)) l0 1 ((xm_si h l0 0 (h.1 l1 0)).1 l1 1)).1 l1 2)).1 l1 3)).1 l1 4)) l0 5 ((xm_si (xm_si (xm_si (xm_si (xm_si h l0 0 (h.1 l1 0)) l0 1 ((xm_si h l0 0 (h.1 l1 0)).1 l1 1)) l0 2 ((xm_si (xm_si h l0 0 (h.1 l1 0)) l0 1 ((xm_si h l0 0 (h.1 l1 0)).1 l1 1)).1 l1 2)) l0 3 ((xm_si (xm_si (xm_si h l0 0 (h.1 l1 0)) l0 1 ((xm_si h l0 0 (h.1 l1 0)).1 l1 1)) l0 2 ((xm_si (xm_si h l0 0 (h.1 l1 0)) l0 1 ((xm_si h l0 0 (h.1 l1 0)).1 l1 1)).1 l1 2)).1 l1 3)) l0 4 ((xm_si (xm_si (xm_si (xm_si h l0 0 (h.1 l1 0)) l0 1 ((xm_si h l0 0 (h.1 l1 0)).1 l1 1)) l0 2 ((xm_si (xm_si h l0 0 (h.1 l1 0)) l0 1 ((xm_si h l0 0 (h.1 l1 0)).1 l1 1)).1 l1 2)) l0 3 ((xm_si (xm_si (xm_si h l0 0 (h.1 l1 0)) l0 1 ((xm_si h l0 0 (h.1 l1 0)).1 l1 1)) l0 2 ((xm_si (xm_si h l0 0 (h.1 l1 0)) l0 1 ((xm_si h l0 0 (h.1 l1 0)).1 l1 1)).1 l1 2)).1 l1 3)).1 l1 4)).1 l1 5)).1 l1 6)).1 l1 7)) l0 8 ((xm_si (xm_si (xm_si (xm_si (xm_si (xm_si (xm_si (xm_si h l0 0 (h.1 l1 0)) l0 1 ((xm_si h l0 0 (h.1 l1 0)).1 l1 1)) l0 2 ((xm_si (xm_si h l0 0 (h.1 l1 0)) l0 1 ((xm_si h l0 0 (h.1 l1 0)).1 l1 1)).1 l1 2)) l0 3 ((xm_si (xm_si (xm_si h l0 0 (h.1 l1 0)) l0 1 ((xm_si h l0 0 (h.1 l1 0)).1 l1 1)) l0 2 ((xm_si (xm_si h l0 0 (h.1 l1 0)) l0 1 ((xm_si h l0 0 (h.1 l1 0)).1 l1 1)).1 l1 2)).1 l1 3)) l0 4 ((xm_si (xm_si (xm_si (xm_si h l0 0 (h.1 l1 0)) l0 1 ((xm_si h l0 0 (h.1 l1 0)).1 l1 1)) l0 2 ((xm_si (xm_si h l0 0 (h.1 l1 0)) l0 1 ((xm_si h l0 0 (h.1 l1 0)).1 l1 1)).1 l1 2)) l0 3 ((xm_si (xm_si (xm_si h l0 0 (h.1 l1 0)) l0 1 ((xm_si h l0 0 (h.1 l1 0)).1 l1 1)) l0 2 ((xm_si (xm_si h l0 0 (h.1 l1 0)) l0 1 ((xm_si h l0 0 (h.1 l1 0)).1 l1 1)).1 l1 2)).1 l1 3)).1 l1 4)) l0 5 ((xm_si (xm_si (xm_si (xm_si (xm_si h l0 0 (h.1 l1 0)) l0 1 ((xm_si h l0 0 (h.1 l1 0)).1 l1 1)) l0 2 ((xm_si (xm_si h l0 0 (h.1 l1 0)) l0 1 ((xm_si h l0 0 (h.1 l1 0)).1 l1 1)).1 l1 2)) l0 3 ((xm_si (xm_si (xm_si h l0 0 (h.1 l1 0)) l0 1 ((xm_si h l0 0 (h.1 l1 0)).1 l1 1)) l0 2 ((xm_si (xm_si h l0 0 (h.1 l1 0)) l0 1 ((xm_si h l0 0 (h.1 l1 0)).1 l1 1)).1 l1 2)).1 l1 3)) l0 4 ((xm_si (xm_si (xm_si (xm_si h l0 0 (h.1 l1 0)) l0 1 ((xm_si h l0 0 (h.1 l1 0)).1 l1 1)) l0 2 ((xm_si (xm_si h l0 0 (h.1 l1 0)) l0 1 ((xm_si h l0 0 (h.1 l1 0)).1 l1 1)).1 l1 2)) l0 3 ((xm_si (xm_si (xm_si h l0 0 (h.1 l1 0)) l0 1 ((xm_si h l0 0 (h.1 l1 0)).1 l1 1)) l0 2 ((xm_si (xm_si h l0 0 (h.1 l1 0)) l0 1 ((xm_si h l0 0 (h.1 l1 0)).1 l1 1)).1 l1 2)).1 l1 3)).1 l1 4)).1 l1 5)) l0 6 ((xm_si (xm_si (xm_si (xm_si (xm_si (xm_si h l0 0 (h.1 l1 0)) l0 1 ((xm_si h l0 0 (h.1 l1 0)).1 l1 1)) l0 2 ((xm_si (xm_si h l0 0 (h.1 l1 0)) l0 1 ((xm_si h l0 0 (h.1 l1 0)).1 l1 1)).1 l1 2)) l0 3 ((xm_si (xm_si (xm_si h l0 0 (h.1 l1 0)) l0 1 ((xm_si h l0 0 (h.1 l1 0)).1 l1 1)) l0 2 ((xm_si (xm_si h l0 0 (h.1 l1 0)) l0 1 ((xm_si h l0 0 (h.1 l1 0)).1 l1 1)).1 l1 2)).1 l1 3)) l0 4 ((xm_si (xm_si (xm_si (xm_si h l0 0 (h.1 l1 0)) l0 1 ((xm_si h l0 0 (h.1 l1 0)).1 l1 1)) l0 2 ((xm_si (xm_si h l0 0 (h.1 l1 0)) l0 1 ((xm_si h l0 0 (h.1 l1 0)).1 l1 1)).1 l1 2)) l0 3 ((xm_si (xm_si (xm_si h l0 0 (h.1 l1 0)) l0 1 ((xm_si h l0 0 (h.1 l1 0)).1 l1 1)) l0 2 ((xm_si (xm_si h l0 0 (h.1 l1 0)) l0 1 ((xm_si h l0 0 (h.1 l1 0)).1 l1 1)).1 l1 2)).1 l1 3)).1 l1 4)) l0 5 ((xm_si (xm_si (xm_si (xm_si (xm_si h l0 0 (h.1 l1 0)) l0 1 ((xm_si h l0 0 (h.1 l1 0)).1 l1 1)) l0 2 ((xm_si (xm_si h l0 0 (h.1 l1 0)) l0 1 ((xm_si h l0 0 (h.1 l1 0)).1 l1 1)).1 l1 2)) l0 3 ((xm_si (xm_si (xm_si h l0 0 (h.1 l1 0)) l0 1 ((xm_si h l0 0 (h.1 l1 0)).1 l1 1)) l0 2 ((xm_si (xm_si h l0 0 (h.1 l1 0)) l0 1 ((xm_si h l0 0 (h.1 l1 0)).1 l1 1)).1 l1 2)).1 l1 3)) l0 4 ((xm_si (xm_si (xm_si (xm_si h l0 0 (h.1 l1 0)) l0 1 ((xm_si h l0 0 (h.1 l1 0)).1 l1 1)) l0 2 ((xm_si (xm_si h l0 0 (h.1 l1 0)) l0 1 ((xm_si h l0 0 (h.1 l1 0)).1 l1 1)).1 l1 2)) l0 3 ((xm_si (xm_si (xm_si h l0 0 (h.1 l1 0)) l0 1 ((xm_si h l0 0 (h.1 l1 0)).1 l1 1)) l0 2 ((xm_si (xm_si h l0 0 (h.1 l1 0)) l0 1 ((xm_si h l0 0 (h.1 l1 0)).1 l1 1)).1 l1 2)).1 l1 3)).1 l1 4)).1 l1 5)).1 l1 6)) l0 7 ((xm_si (xm_si (xm_si (xm_si (xm_si (xm_si (xm_si h l0 0 (h.1 l1 0)) l0 1 ((xm_si h l0 0 (h.1 l1 0)).1 l1 1)) l0 2 ((xm_si (xm_si h l0 0 (h.1 l1 0)) l0 1 ((xm_si h l0 0 (h.1 l1 0)).1 l1 1)).1 l1 2)) l0 3 ((xm_si (xm_si (xm_si h l0 0 (h.1 l1 0)) l0 1 ((xm_si h l0 0 (h.1 l1 0)).1 l1 1)) l0 2 ((xm_si (xm_si h l0 0 (h.1 l1 0)) l0 1 ((xm_si h l0 0 (h.1 l1 0)).1 l1 1)).1 l1 2)).1 l1 3)) l0 4 ((xm_si (xm_si (xm_si (xm_si h l0 0 (h.1 l1 0)) l0 1 ((xm_si h l0 0 (h.1 l1 0)).1 l1 1)) l0 2 ((xm_si (xm_si h l0 0 (h.1 l1 0)) l0 1 ((xm_si h l0 0 (h.1 l1 0)).1 l1 1)).1 l1 2)) l0 3 ((xm_si (xm_si (xm_si h l0 0 (h.1 l1 0)) l0 1 ((xm_si h l0 0 (h.1 l1 0)).1 l1 1)) l0 2 ((xm_si (xm_si h l0 0 (h.1 l1 0)) l0 1 ((xm_si h l0 0 (h.1 l1 0)).1 l1 1)).1 l1 2)).1 l1 3)).1 l1 4)) l0 5 ((xm_si (xm_si (xm_si (xm_si (xm_si h l0 0 (h.1 l1 0)) l0 1 ((xm_si h l0 0 (h.1 l1 0)).1 l1 1)) l0 2 ((xm_si (xm_si h l0 0 (h.1 l1 0)) l0 1 ((xm_si h l0 0 (h.1 l1 0)).1 l1 1)).1 l1 2)) l0 3 ((xm_si (xm_si (xm_si h l0 0 (h.1 l1 0)) l0 1 ((xm_si h l0 0 (h.1 l1 0)).1 l1 1)) l0 2 ((xm_si (xm_si h l0 0 (h.1 l1 0)) l0 1 ((xm_si h l0 0 (h.1 l1 0)).1 l1 1)).1 l1 2)).1 l1 3)) l0 4 ((xm_si (xm_si (xm_si (xm_si h l0 0 (h.1 l1 0)) l0 1 ((xm_si h l0 0 (h.1 l1 0)).1 l1 1)) l0 2 ((xm_si (xm_si h l0 0 (h.1 l1 0)) l0 1 ((xm_si h l0 0 (h.1 l1 0)).1 l1 1)).1 l1 2)) l0 3 ((xm_si (xm_si (xm_si h l0 0 (h.1 l1 0)) l0 1 ((xm_si h l0 0 (h.1 l1 0)).1 l1 1)) l0 2 ((xm_si (xm_si h l0 0 (h.1 l1 0)) l0 1 ((xm_si h l0 0 (h.1 l1 0)).1 l1 1)).1 l1 2)).1 l1 3)).1 l1 4)).1 l1 5)) l0 6 ((xm_si (xm_si (xm_si (xm_si (xm_si (xm_si h l0 0 (h.1 l1 0)) l0 1 ((xm_si h l0 0 (h.1 l1 0)).1 l1 1)) l0 2 ((xm_si (xm_si h l0 0 (h.1 l1 0)) l0 1 ((xm_si h l0 0 (h.1 l1 0)).1 l1 1)).1 l1 2)) l0 3 ((xm_si (xm_si (xm_si h l0 0 (h.1 l1 0)) l0 1 ((xm_si h l0 0 (h.1 l1 0)).1 l1 1)) l0 2 ((xm_si (xm_si h l0 0 (h.1 l1 0)) l0 1 ((xm_si h l0 0 (h.1 l1 0)).1 l1 1)).1 l1 2)).1 l1 3)) l0 4 ((xm_si (xm_si (xm_si (xm_si h l0 0 (h.1 l1 0)) l0 1 ((xm_si h l0 0 (h.1 l1 0)).1 l1 1)) l0 2 ((xm_si (xm_si h l0 0 (h.1 l1 0)) l0 1 ((xm_si h l0 0 (h.1 l1 0)).1 l1 1)).1 l1 2)) l0 3 ((xm_si (xm_si (xm_si h l0 0 (h.1 l1 0)) l0 1 ((xm_si h l0 0 (h.1 l1 0)).1 l1 1)) l0 2 ((xm_si (xm_si h l0 0 (h.1 l1 0)) l0 1 ((xm_si h l0 0 (h.1 l1 0)).1 l1 1)).1 l1 2)).1 l1 3)).1 l1 4)) l0 5 ((xm_si (xm_si (xm_si (xm_si (xm_si h l0 0 (h.1 l1 0)) l0 1 ((xm_si h l0 0 (h.1 l1 0)).1 l1 1)) l0 2 ((xm_si (xm_si h l0 0 (h.1 l1 0)) l0 1 ((xm_si h l0 0 (h.1 l1 0)).1 l1 1)).1 l1 2)) l0 3 ((xm_si (xm_si (xm_si h l0 0 (h.1 l1 0)) l0 1 ((xm_si h l0 0 (h.1 l1 0)).1 l1 1)) l0 2 ((xm_si (xm_si h l0 0 (h.1 l1 0)) l0 1 ((xm_si h l0 0 (h.1 l1 0)).1 l1 1)).1 l1 2)).1 l1 3)) l0 4 ((xm_si (xm_si (xm_si (xm_si h l0 0 (h.1 l1 0)) l0 1 ((xm_si h l0 0 (h.1 l1 0)).1 l1 1)) l0 2 ((xm_si (xm_si h l0 0 (h.1 l1 0)) l0 1 ((xm_si h l0 0 (h.1 l1 0)).1 l1 1)).1 l1 2)) l0 3 ((xm_si (xm_si (xm_si h l0 0 (h.1 l1 0)) l0 1 ((xm_si h l0 0 (h.1 l1 0)).1 l1 1)) l0 2 ((xm_si (xm_si h l0 0 (h.1 l1 0)) l0 1 ((xm_si h l0 0 (h.1 l1 0)).1 l1 1)).1 l1 2)).1 l1 3)).1 l1 4)).1 l1 5)).1 l1 6)).1 l1 7)).1 l1 8)).2.2 l1 12 = some v1) (q4 : xm_V X P d 179 [.ref v0, .ref v1] (xm_si (xm_si (xm_si (xm_si (xm_si (xm_si (xm_si (xm_si (xm_si h l0 0 (h.1 l1 0)) l0 1 ((xm_si h l0 0 (h.1 l1 0)).1 l1 1)) l0 2 ((xm_si (xm_si h l0 0 (h.1 l1 0)) l0 1 ((xm_si h l0 0 (h.1 l1 0)).1 l1 1)).1 l1 2)) l0 3 ((xm_si (xm_si (xm_si h l0 0 (h.1 l1 0)) l0 1 ((xm_si h l0 0 (h.1 l1 0)).1 l1 1)) l0 2 ((xm_si (xm_si h l0 0 (h.1 l1 0)) l0 1 ((xm_si h l0 0 (h.1 l1 0)).1 l1 1)).1 l1 2)).1 l1 3)) l0 4 ((xm_si (xm_si (xm_si (xm_si h l0 0 (h.1 l1 0)) l0 1 ((xm_si h l0 0 (h.1 l1 0)).1 l1 1)) l0 2 ((xm_si (xm_si h l0 0 (h.1 l1 0)) l0 1 ((xm_si h l0 0 (h.1 l1 0)).1 l1 1)).1 l1 2)) l0 3 ((xm_si (xm_si (xm_si h l0 0 (h.1 l1 0)) l0 1 ((xm_si h l0 0 (h.1 l1 0)).1 l1 1)) l0 2 ((xm_si (xm_si h l0 0 (h.1 l1 0)) l0 1 ((xm_si h l0 0 (h.1 l1 0)).1 l1 1)).1 l1 2)).1 l1 3)).1 l1 4)) l0 5 ((xm_si (xm_si (xm_si (xm_si (xm_si h l0 0 (h.1 l1 0)) l0 1 ((xm_si h l0 0 (h.1 l1 0)).1 l1 1)) l0 2 ((xm_si (xm_si h l0 0 (h.1 l1 0)) l0 1 ((xm_si h l0 0 (h.1 l1 0)).1 l1 1)).1 l1 2)) l0 3 ((xm_si (xm_si (xm_si h l0 0 (h.1 l1 0)) l0 1 ((xm_si h l0 0 (h.1 l1 0)).1 l1 1)) l0 2 ((xm_si (xm_si h l0 0 (h.1 l1 0)) l0 1 ((xm_si h l0 0 (h.1 l1 0)).1 l1 1)).1 l1 2)).1 l1 3)) l0 4 ((xm_si (xm_si (xm_si (xm_si h l0 0 (h.1 l1 0)) l0 1 ((xm_si h l0 0 (h.1 l1 0)).1 l1 1)) l0 2 ((xm_si (xm_si h l0 0 (h.1 l1 0)) l0 1 ((xm_si h l0 0 (h.1 l1 0)).1 l1 1)).1 l1 2)) l0 3 ((xm_si (xm_si (xm_si h l0 0 (h.1 l1 0)) l0 1 ((xm_si h l0 0 (h.1 l1 0)).1 l1 1)) l0 2 ((xm_si (xm_si h l0 0 (h.1 l1 0)) l0 1 ((xm_si h l0 0 (h.1 l1 0)).1 l1 1)).1 l1 2)).1 l1 3)).1 l1 4)).1 l1 5)) l0 6 ((xm_si (xm_si (xm_si (xm_si (xm_si (xm_si h l0 0 (h.1 l1 0)) l0 1 ((xm_si h l0 0 (h.1 l1 0)).1 l1 1)) l0 2 ((xm_si (xm_si h l0 0 (h.1 l1 0)) l0 1 ((xm_si h l0 0 (h.1 l1 0)).1 l1 1)).1 l1 2)) l0 3 ((xm_si (xm_si (xm_si h l0 0 (h.1 l1 0)) l0 1 ((xm_si h l0 0 (h.1 l1 0)).1 l1 1)) l0 2 ((xm_si (xm_si h l0 0 (h.1 l1 0)) l0 1 ((xm_si h l0 0 (h.1 l1 0)).1 l1 1)).1 l1 2)).1 l1 3)) l0 4 ((xm_si (xm_si (xm_si (xm_si h l0 0 (h.1 l1 0)) l0 1 ((xm_si h l0 0 (h.1 l1 0)).1 l1 1)) l0 2 ((xm_si (xm_si h l0 0 (h.1 l1 0)) l0 1 ((xm_si h l0 0 (h.1 l1 0)).1 l1 1)).1 l1 2)) l0 3 ((xm_si (xm_si (xm_si h l0 0 (h.1 l1 0)) l0 1 ((xm_si h l0 0 (h.1 l1 0)).1 l1 1)) l0 2 ((xm_si (xm_si h l0 0 (h.1 l1 0)) l0 1 ((xm_si h l0 0 (h.1 l1 0)).1 l1 1)).1 l1 2)).1 l1 3)).1 l1 4)) l0 5 ((xm_si (xm_si (xm_si (xm_si (xm_si h l0 0 (h.1 l1 0)) l0 1 ((xm_si h l0 0 (h.1 l1 0)).1 l1 1)) l0 2 ((xm_si (xm_si h l0 0 (h.1 l1 0)) l0 1 ((xm_si h l0 0 (h.1 l1 0)).1 l1 1)).1 l1 2)) l0 3 ((xm_si (xm_si (xm_si h l0 0 (h.1 l1 0)) l0 1 ((xm_si h l0 0 (h.1 l1 0)).1 l1 1)) l0 2 ((xm_si (xm_si h l0 0 (h.1 l1 0)) l0 1 ((xm_si h l0 0 (h.1 l1 0)).1 l1 1)).1 l1 2)).1 l1 3)) l0 4 ((xm_si (xm_si (xm_si (xm_si h l0 0 (h.1 l1 0)) l0 1 ((xm_si h l0 0 (h.1 l1 0)).1 l1 1)) l0 2 ((xm_si (xm_si h l0 0 (h.1 l1 0)) l0 1 ((xm_si h l0 0 (h.1 l1 0)).1 l1 1)).1 l1 2)) l0 3 ((xm_si (xm_si (xm_si h l0 0 (h.1 l1 0)) l0 1 ((xm_si h l0 0 (h.1 l1 0)).1 l1 1)) l0 2 ((xm_si (xm_si h l0 0 (h.1 l1 0)) l0 1 ((xm_si h l0 0 (h.1 l1 0)).1 l1 1)).1 l1 2)).1 l1 3)).1 l1 4)).1 l1 5)).1 l1 6)) l0 7 ((xm_si (xm_si (xm_si (xm_si (xm_si (xm_si (xm_si h l0 0 (h.1 l1 0)) l0 1 ((xm_si h l0 0 (h.1 l1 0)).1 l1 1)) l0 2 ((xm_si (xm_si h l0 0 (h.1 l1 0)) l0 1 ((xm_si h l0 0 (h.1 l1 0)).1 l1 1)).1 l1 2)) l0 3 ((xm_si (xm_si (xm_si h l0 0 (h.1 l1 0)) l0 1 ((xm_si h l0 0 (h.1 l1 0)).1 l1 1)) l0 2 ((xm_si (xm_si h l0 0 (h.1 l1 0)) l0 1 ((xm_si h l0 0 (h.1 l1 0)).1 l1 1)).1 l1 2)).1 l1 3)) l0 4 ((xm_si (xm_si (xm_si (xm_si h l0 0 (h.1 l1 0)) l0 1 ((xm_si h l0 0 (h.1 l1 0)).1 l1 1)) l0 2 ((xm_si (xm_si h l0 0 (h.1 l1 0)) l0 1 ((xm_si h l0 0 (h.1 l1 0)).1 l1 1)).1 l1 2)) l0 3 ((xm_si (xm_si (xm_si h l0 0 (h.1 l1 0)) l0 1 ((xm_si h l0 0 (h.1 l1 0)).1 l1 1)) l0 2 ((xm_si (xm_si h l0 0 (h.1 l1 0)) l0 1 ((xm_si h l0 0 (h.1 l1 0)).1 l1 1)).1 l1 2)).1 l1 3)).1 l1 4)) l0 5 ((xm_si (xm_si (xm_si (xm_si (xm_si h l0 0 (h.1 l1 0)) l0 1 ((xm_si h l0 0 (h.1 l1 0)).1 l1 1)) l0 2 ((xm_si (xm_si h l0 0 (h.1 l1 0)) l0 1 ((xm_si h l0 0 (h.1 l1 0)).1 l1 1)).1 l1 2)) l0 3 ((xm_si (xm_si (xm_si h l0 0 (h.1 l1 0)) l0 1 ((xm_si h l0 0 (h.1 l1 0)).1 l1 1)) l0 2 ((xm_si (xm_si h l0 0 (h.1 l1 0)) l0 1 ((xm_si h l0 0 (h.1 l1 0)).1 l1 1)).1 l1 2)).1 l1 3)) l0 4 ((xm_si (xm_si (xm_si (xm_si h l0 0 (h.1 l1 0)) l0 1 ((xm_si h l0 0 (h.1 l1 0)).1 l1 1)) l0 2 ((xm_si (xm_si h l0 0 (h.1 l1 0)) l0 1 ((xm_si h l0 0 (h.1 l1 0)).1 l1 1)).1 l1 2)) l0 3 ((xm_si (xm_si (xm_si h l0 0 (h.1 l1 0)) l0 1 ((xm_si h l0 0 (h.1 l1 0)).1 l1 1)) l0 2 ((xm_si (xm_si h l0 0 (h.1 l1 0)) l0 1 ((xm_si h l0 0 (h.1 l1 0)).1 l1 1)).1 l1 2)).1 l1 3)).1 l1 4)).1 l1 5)) l0 6 ((xm_si (xm_si (xm_si (xm_si (xm_si (xm_si h l0 0 (h.1 l1 0)) l0 1 ((xm_si h l0 0 (h.1 l1 0)).1 l1 1)) l0 2 ((xm_si (xm_si h l0 0 (h.1 l1 0)) l0 1 ((xm_si h l0 0 (h.1 l1 0)).1 l1 1)).1 l1 2)) l0 3 ((xm_si (xm_si (xm_si h l0 0 (h.1 l1 0)) l0 1 ((xm_si h l0 0 (h.1 l1 0)).1 l1 1)) l0 2 ((xm_si (xm_si h l0 0 (h.1 l1 0)) l0 1 ((xm_si h l0 0 (h.1 l1 0)).1 l1 1)).1 l1 2)).1 l1 3)) l0 4 ((xm_si (xm_si (xm_si (xm_si h l0 0 (h.1 l1 0)) l0 1 ((xm_si h l0 0 (h.1 l1 0)).1 l1 1)) l0 2 ((xm_si (xm_si h l0 0 (h.1 l1 0)) l0 1 ((xm_si h l0 0 (h.1 l1 0)).1 l1 1)).1 l1 2)) l0 3 ((xm_si (xm_si (xm_si h l0 0 (h.1 l1 0)) l0 1 ((xm_si h l0 0 (h.1 l1 0)).1 l1 1)) l0 2 ((xm_si (xm_si h l0 0 (h.1 l1 0)) l0 1 ((xm_si h l0 0 (h.1 l1 0)).1 l1 1)).1 l1 2)).1 l1 3)).1 l1 4)) l0 5 ((xm_si (xm_si (xm_si (xm_si (xm_si h l0 0 (h.1 l1 0)) l0 1 ((xm_si h l0 0 (h.1 l1 0)).1 l1 1)) l0 2 ((xm_si (xm_si h l0 0 (h.1 l1 0)) l0 1 ((xm_si h l0 0 (h.1 l1 0)).1 l1 1)).1 l1 2)) l0 3 ((xm_si (xm_si (xm_si h l0 0 (h.1 l1 0)) l0 1 ((xm_si h l0 0 (h.1 l1 0)).1 l1 1)) l0 2 ((xm_si (xm_si h l0 0 (h.1 l1 0)) l0 1 ((xm_si h l0 0 (h.1 l1 0)).1 l1 1)).1 l1 2)).1 l1 3)) l0 4 ((xm_si (xm_si (xm_si (xm_si h l0 0 (h.1 l1 0)) l0 1 ((xm_si h l0 0 (h.1 l1 0)).1 l1 1)) l0 2 ((xm_si (xm_si h l0 0 (h.1 l1 0)) l0 1 ((xm_si h l0 0 (h.1 l1 0)).1 l1 1)).1 l1 2)) l0 3 ((xm_si (xm_si (xm_si h l0 0 (h.1 l1 0)) l0 1 ((xm_si h l0 0 (h.1 l1 0)).1 l1 1)) l0 2 ((xm_si (xm_si h l0 0 (h.1 l1 0)) l0 1 ((xm_si h l0 0 (h.1 l1 0)).1 l1 1)).1 l1 2)).1 l1 3)).1 l1 4)).1 l1 5)).1 l1 6)).1 l1 7)) l0 8 ((xm_si (xm_si (xm_si (xm_si (xm_si (xm_si (xm_si (xm_si h l0 0 (h.1 l1 0)) l0 1 ((xm_si h l0 0 (h.1 l1 0)).1 l1 1)) l0 2 ((xm_si (xm_si h l0 0 (h.1 l1 0)) l0 1 ((xm_si h l0 0 (h.1 l1 0)).1 l1 1)).1 l1 2)) l0 3 ((xm_si (xm_si (xm_si h l0 0 (h.1 l1 0)) l0 1 ((xm_si h l0 0 (h.1 l1 0)).1 l1 1)) l0 2 ((xm_si (xm_si h l0 0 (h.1 l1 0)) l0 1 ((xm_si h l0 0 (h.1 l1 0)).1 l1 1)).1 l1 2)).1 l1 3)) l0 4 ((xm_si (xm_si (xm_si (xm_si h l0 0 (h.1 l1 0)) l0 1 ((xm_si h l0 0 (h.1 l1 0)).1 l1 1)) l0 2 ((xm_si (xm_si h l0 0 (h.1 l1 0)) l0 1 ((xm_si h l0 0 (h.1 l1 0)).1 l1 1)).1 l1 2)) l0 3 ((xm_si (xm_si (xm_si h l0 0 (h.1 l1 0)) l0 1 ((xm_si h l0 0 (h.1 l1 0)).1 l1 1)) l0 2 ((xm_si (xm_si h l0 0 (h.1 l1 0)) l0 1 ((xm_si h l0 0 (h.1 l1 0)).1 l1 1)).1 l1 2)).1 l1 3)).1 l1 4)) l0 5 ((xm_si (xm_si (xm_si (xm_si (xm_si h l0 0 (h.1 l1 0)) l0 1 ((xm_si h l0 0 (h.1 l1 0)).1 l1 1)) l0 2 ((xm_si (xm_si h l0 0 (h.1 l1 0)) l0 1 ((xm_si h l0 0 (h.1 l1 0)).1 l1 1)).1 l1 2)) l0 3 ((xm_si (xm_si (xm_si h l0 0 (h.1 l1 0)) l0 1 ((xm_si h l0 0 (h.1 l1 0)).1 l1 1)) l0 2 ((xm_si (xm_si h l0 0 (h.1 l1 0)) l0 1 ((xm_si h l0 0 (h.1 l1 0)).1 l1 1)).1 l1 2)).1 l1 3)) l0 4 ((xm_si (xm_si (xm_si (xm_si h l0 0 (h.1 l1 0)) l0 1 ((xm_si h l0 0 (h.1 l1 0)).1 l1 1)) l0 2 ((xm_si (xm_si h l0 0 (h.1 l1 0)) l0 1 ((xm_si h l0 0 (h.1 l1 0)).1 l1 1)).1 l1 2)) l0 3 ((xm_si (xm_si (xm_si h l0 0 (h.1 l1 0)) l0 1 ((xm_si h l0 0 (h.1 l1 0)).1 l1 1)) l0 2 ((xm_si (xm_si h l0 0 (h.1 l1 0)) l0 1 ((xm_si h l0 0 (h.1 l1 0)).1 l1 1)).1 l1 2)).1 l1 3)).1 l1 4)).1 l1 5)) l0 6 ((xm_si (xm_si (xm_si (xm_si (xm_si (xm_si h l0 0 (h.1 l1 0)) l0 1 ((xm_si h l0 0 (h.1 l1 0)).1 l1 1)) l0 2 ((xm_si (xm_si h l0 0 (h.1 l1 0)) l0 1 ((xm_si h l0 0 (h.1 l1 0)).1 l1 1)).1 l1 2)) l0 3 ((xm_si (xm_si (xm_si h l0 0 (h.1 l1 0)) l0 1 ((xm_si h l0 0 (h.1 l1 0)).1 l1 1)) l0 2 ((xm_si (xm_si h l0 0 (h.1 l1 0)) l0 1 ((xm_si h l0 0 (h.1 l1 0)).1 l1 1)).1 l1 2)).1 l1 3)) l0 4 ((xm_si (xm_si (xm_si (xm_si h l0 0 (h.1 l1 0)) l0 1 ((xm_si h l0 0 (h.1 l1 0)).1 l1 1)) l0 2 ((xm_si (xm_si h l0 0 (h.1 l1 0)) l0 1 ((xm_si h l0 0 (h.1 l1 0)).1 l1 1)).1 l1 2)) l0 3 ((xm_si (xm_si (xm_si h l0 0 (h.1 l1 0)) l0 1 ((xm_si h l0 0 (h.1 l1 0)).1 l1 1)) l0 2 ((xm_si (xm_si h l0 0 (h.1 l1 0)) l0 1 ((xm_si h l0 0 (h.1 l1 0)).1 l1 1)).1 l1 2)).1 l1 3)).1 l1 4)) l0 5 ((xm_si (xm_si (xm_si (xm_si (xm_si h l0 0 (h.1 l1 0)) l0 1 ((xm_si h l0 0 (h.1 l1 0)).1 l1 1)) l0 2 ((xm_si (xm_si h l0 0 (h.1 l1 0)) l0 1 ((xm_si h l0 0 (h.1 l1 0)).1 l1 1)).1 l1 2)) l0 3 ((xm_si (xm_si (xm_si h l0 0 (h.1 l1 0)) l0 1 ((xm_si h l0 0 (h.1 l1 0)).1 l1 1)) l0 2 ((xm_si (xm_si h l0 0 (h.1 l1 0)) l0 1 ((xm_si h l0 0 (h.1 l1 0)).1 l1 1)).1 l1 2)).1 l1 3)) l0 4 ((xm_si (xm_si (xm_si (xm_si h l0 0 (h.1 l1 0)) l0 1 ((xm_si h l0 0 (h.1 l1 0)).1 l1 1)) l0 2 ((xm_si (xm_si h l0 0 (h.1 l1 0)) l0 1 ((xm_si h l0 0 (h.1 l1 0)).1 l1 1)).1 l1 2)) l0 3 ((xm_si (xm_si (xm_si h l0 0 (h.1 l1 0)) l0 1 ((xm_si h l0 0 (h.1 l1 0)).1 l1 1)) l0 2 ((xm_si (xm_si h l0 0 (h.1 l1 0)) l0 1 ((xm_si h l0 0 (h.1 l1 0)).1 l1 1)).1 l1 2)).1 l1 3)).1 l1 4)).1 l1 5)).1 l1 6)) l0 7 ((xm_si (xm_si (xm_si (xm_si (xm_si (xm_si (xm_si h l0 0 (h.1 l1 0)) l0 1 ((xm_si h l0 0 (h.1 l1 0)).1 l1 1)) l0 2 ((xm_si (xm_si h l0 0 (h.1 l1 0)) l0 1 ((xm_si h l0 0 (h.1 l1 0)).1 l1 1)).1 l1 2)) l0 3 ((xm_si (xm_si (xm_si h l0 0 (h.1 l1 0)) l0 1 ((xm_si h l0 0 (h.1 l1 0)).1 l1 1)) l0 2 ((xm_si (xm_si h l0 0 (h.1 l1 0)) l0 1 ((xm_si h l0 0 (h.1 l1 0)).1 l1 1)).1 l1 2)).1 l1 3)) l0 4 ((xm_si (xm_si (xm_si (xm_si h l0 0 (h.1 l1 0)) l0 1 ((xm_si h l0 0 (h.1 l1 0)).1 l1 1)) l0 2 ((xm_si (xm_si h l0 0 (h.1 l1 0)) l0 1 ((xm_si h l0 0 (h.1 l1 0)).1 l1 1)).1 l1 2)) l0 3 ((xm_si (xm_si (xm_si h l0 0 (h.1 l1 0)) l0 1 ((xm_si h l0 0 (h.1 l1 0)).1 l1 1)) l0 2 ((xm_si (xm_si h l0 0 (h.1 l1 0)) l0 1 ((xm_si h l0 0 (h.1 l1 0)).1 l1 1)).1 l1 2)).1 l1 3)).1 l1 4)) l0 5 ((xm_si (xm_si (xm_si (xm_si (xm_si h l0 0 (h.1 l1 0)) l0 1 ((xm_si h l0 0 (h.1 l1 0)).1 l1 1)) l0 2 ((xm_si (xm_si h l0 0 (h.1 l1 0)) l0 1 ((xm_si h l0 0 (h.1 l1 0)).1 l1 1)).1 l1 2)) l0 3 ((xm_si (xm_si (xm_si h l0 0 (h.1 l1 0)) l0 1 ((xm_si h l0 0 (h.1 l1 0)).1 l1 1)) l0 2 ((xm_si (xm_si h l0 0 (h.1 l1 0)) l0 1 ((xm_si h l0 0 (h.1 l1 0)).1 l1 1)).1 l1 2)).1 l1 3)) l0 4 ((xm_si (xm_si (xm_si (xm_si h l0 0 (h.1 l1 0)) l0 1 ((xm_si h l0 0 (h.1 l1 0)).1 l1 1)) l0 2 ((xm_si (xm_si h l0 0 (h.1 l1 0)) l0 1 ((xm_si h l0 0 (h.1 l1 0)).1 l1 1)).1 l1 2)) l0 3 ((xm_si (xm_si (xm_si h l0 0 (h.1 l1 0)) l0 1 ((xm_si h l0 0 (h.1 l1 0)).1 l1 1)) l0 2 ((xm_si (xm_si h l0 0 (h.1 l1 0)) l0 1 ((xm_si h l0 0 (h.1 l1 0)).1 l1 1)).1 l1 2)).1 l1 3)).1 l1 4)).1 l1 5)) l0 6 ((xm_si (xm_si (xm_si (xm_si (xm_si (xm_si h l0 0 (h.1 l1 0)) l0 1 ((xm_si h l0 0 (h.1 l1 0)).1 l1 1)) l0 2 ((xm_si (xm_si h l0 0 (h.1 l1 0)) l0 1 ((xm_si h l0 0 (h.1 l1 0)).1 l1 1)).1 l1 2)) l0 3 ((xm_si (xm_si (xm_si h l0 0 (h.1 l1 0)) l0 1 ((xm_si h l0 0 (h.1 l1 0)).1 l1 1)) l0 2 ((xm_si (xm_si h l0 0 (h.1 l1 0)) l0 1 ((xm_si h l0 0 (h.1 l1 0)).1 l1 1)).1 l1 2)).1 l1 3)) l0 4 ((xm_si (xm_si (xm_si (xm_si h l0 0 (h.1 l1 0)) l0 1 ((xm_si h l0 0 (h.1 l1 0)).1 l1 1)) l0 2 ((xm_si (xm_si h l0 0 (h.1 l1 0)) l0 1 ((xm_si h l0 0 (h.1 l1 0)).1 l1 1)).1 l1 2)) l0 3 ((xm_si (xm_si (xm_si h l0 0 (h.1 l1 0)) l0 1 ((xm_si h l0 0 (h.1 l1 0)).1 l1 1)) l0 2 ((xm_si (xm_si h l0 0 (h.1 l1 0)) l0 1 ((xm_si h l0 0 (h.1 l1 0)).1 l1 1)).1 l1 2)).1 l1 3)).1 l1 4)) l0 5 ((xm_si (xm_si (xm_si (xm_si (xm_si h l0 0 (h.1 l1 0)) l0 1 ((xm_si h l0 0 (h.1 l1 0)).1 l1 1)) l0 2 ((xm_si (xm_si h l0 0 (h.1 l1 0)) l0 1 ((xm_si h l0 0 (h.1 l1 0)).1 l1 1)).1 l1 2)) l0 3 ((xm_si (xm_si (xm_si h l0 0 (h.1 l1 0)) l0 1 ((xm_si h l0 0 (h.1 l1 0)).1 l1 1)) l0 2 ((xm_si (xm_si h l0 0 (h.1 l1 0)) l0 1 ((xm_si h l0 0 (h.1 l1 0)).1 l1 1)).1 l1 2)).1 l1 3)) l0 4 ((xm_si (xm_si (xm_si (xm_si h l0 0 (h.1 l1 0)) l0 1 ((xm_si h l0 0 (h.1 l1 0)).1 l1 1)) l0 2 ((xm_si (xm_si h l0 0 (h.1 l1 0)) l0 1 ((xm_si h l0 0 (h.1 l1 0)).1 l1 1)).1 l1 2)) l0 3 ((xm_si (xm_si (xm_si h l0 0 (h.1 l1 0)) l0 1 ((xm_si h l0 0 (h.1 l1 0)).1 l1 1)) l0 2 ((xm_si (xm_si h l0 0 (h.1 l1 0)) l0 1 ((xm_si h l0 0 (h.1 l1 0)).1 l1 1)).1 l1 2)).1 l1 3)).1 l1 4)).1 l1 5)).1 l1 6)).1 l1 7)).1 l1 8)) none h2) (q5 : X.1[v0]? = some (.inr 7)) (q6 : (xm_si (xm_si (xm_si h2 l0 9 (h2.1 l1 9)) l0 10 ((xm_si h2 l0 9 (h2.1 l1 9)).1 l1 10)) l0 11 ((xm_si (xm_si h2 l0 9 (h2.1 l1 9)) l0 10 ((xm_si h2 l0 9 (h2.1 l1 9)).1 l1 10)).1 l1 11)).2.2 l1 13 = some v3) (q7 : (xm_si (xm_si (xm_si h2 l0 9 (h2.1 l1 9)) l0 10 ((xm_si h2 l0 9 (h2.1 l1 9)).1 l1 10)) l0 11 ((xm_si (xm_si h2 l0 9 (h2.1 l1 9)) l0 10 ((xm_si h2 l0 9 (h2.1 l1 9)).1 l1 10)).1 l1 11)).2.2 l0 13 = some v4) (q8 : xm_V X P d 180 [.ref v3, .ref v4] (xm_si (xm_si (xm_si h2 l0 9 (h2.1 l1 9)) l0 10 ((xm_si h2 l0 9 (h2.1 l1 9)).1 l1 10)) l0 11 ((xm_si (xm_si h2 l0 9 (h2.1 l1 9)) l0 10 ((xm_si h2 l0 9 (h2.1 l1 9)).1 l1 10)).1 l1 11)) none h5) (q9 : h5.2.2 l1 14 = some v6) (q10 : h5.2.2 l0 14 = some v7) (q11 : xm_V X P d 180 [.ref v6, .ref v7] h5 none h8) (q12 : h8.2.2 l1 15 = some v9) (q13 : h8.2.2 l0 15 = some v10) (q14 : xm_V X P d 180 [.ref v9, .ref v10] h8 none h11) (q15 : h11.2.2 l1 16 = some v12) (q16 : h11.2.2 l0 16 = some v13) (q17 : xm_V X P d 180 [.ref v12, .ref v13] h11 none h14) (q18 : h14.2.2 l1 17 = some v15) (q19 : h14.2.2 l0 17 = some v16) (q20 : xm_V X P d 180 [.ref v15, .ref v16] h14 none h17) (q21 : h17.2.2 l1 18 = some v18) (q22 : h17.2.2 l0 18 = some v19) (q23 : xm_V X P d 180 [.ref v18, .ref v19] h17 none h20) : xm_E X P d co_X0_copy 0 [some (.ref l0), some (.ref l1)] [] h none h20 := by
  refine xm_E_s r_X0_copy_0 rfl rfl ?_
  refine xm_E_s r_X0_copy_1 rfl rfl ?_
  refine xm_E_s r_X0_copy_2 rfl (xm_T_gi rfl q0 rfl (Or.inl rfl)) ?_
  refine xm_E_s r_X0_copy_3 rfl (xm_T_pi rfl q1 rfl rfl) ?_
  refine xm_E_s r_X0_copy_4 rfl rfl ?_
  refine xm_E_s r_X0_copy_5 rfl rfl ?_
  refine xm_E_s r_X0_copy_6 rfl (xm_T_gi rfl q0 rfl (Or.inl rfl)) ?_
  refine xm_E_s r_X0_copy_7 rfl (xm_T_pi rfl q1 rfl rfl) ?_
  refine xm_E_s r_X0_copy_8 rfl rfl ?_
  refine xm_E_s r_X0_copy_9 rfl rfl ?_
  refine xm_E_s r_X0_copy_10 rfl (xm_T_gi rfl q0 rfl (Or.inl rfl)) ?_
  refine xm_E_s r_X0_copy_11 rfl (xm_T_pi rfl q1 rfl rfl) ?_
  refine xm_E_s r_X0_copy_12 rfl rfl ?_
  refine xm_E_s r_X0_copy_13 rfl rfl ?_
  refine xm_E_s r_X0_copy_14 rfl (xm_T_gi rfl q0 rfl (Or.inl rfl)) ?_
  refine xm_E_s r_X0_copy_15 rfl (xm_T_pi rfl q1 rfl rfl) ?_
  refine xm_E_s r_X0_copy_16 rfl rfl ?_
  refine xm_E_s r_X0_copy_17 rfl rfl ?_
  refine xm_E_s r_X0_copy_18 rfl (xm_T_gi rfl q0 rfl (Or.inl rfl)) ?_
  refine xm_E_s r_X0_copy_19 rfl (xm_T_pi rfl q1 rfl rfl) ?_
  refine xm_E_s r_X0_copy_20 rfl rfl ?_
  refine xm_E_s r_X0_copy_21 rfl rfl ?_
  refine xm_E_s r_X0_copy_22 rfl (xm_T_gi rfl q0 rfl (Or.inl rfl)) ?_
  refine xm_E_s r_X0_copy_23 rfl (xm_T_pi rfl q1 rfl rfl) ?_
  refine xm_E_s r_X0_copy_24 rfl rfl ?_
  refine xm_E_s r_X0_copy_25 rfl rfl ?_
  refine xm_E_s r_X0_copy_26 rfl (xm_T_gi rfl q0 rfl (Or.inl rfl)) ?_
  refine xm_E_s r_X0_copy_27 rfl (xm_T_pi rfl q1 rfl rfl) ?_
  refine xm_E_s r_X0_copy_28 rfl rfl ?_
  refine xm_E_s r_X0_copy_29 rfl rfl ?_
  refine xm_E_s r_X0_copy_30 rfl (xm_T_gi rfl q0 rfl (Or.inl rfl)) ?_
  refine xm_E_s r_X0_copy_31 rfl (xm_T_pi rfl q1 rfl rfl) ?_
  refine xm_E_s r_X0_copy_32 rfl rfl ?_
  refine xm_E_s r_X0_copy_33 rfl rfl ?_
  refine xm_E_s r_X0_copy_34 rfl (xm_T_gi rfl q0 rfl (Or.inl rfl)) ?_
  refine xm_E_s r_X0_copy_35 rfl (xm_T_pi rfl q1 rfl rfl) ?_
  refine xm_E_s r_X0_copy_36 rfl rfl ?_
  refine xm_E_s r_X0_copy_37 rfl (xm_T_gr rfl q1 rfl rfl q2) ?_
  refine xm_E_s r_X0_copy_38 rfl rfl ?_
  refine xm_E_s r_X0_copy_39 rfl (xm_T_gr rfl q0 rfl rfl q3) ?_
  refine xm_E_cv [.ref v0, .ref v1] [] r_X0_copy_40 rfl rfl (Nat.le_of_ble_eq_true rfl) (xm_rc q5 (by decide)) rfl q4 ?_
  refine xm_E_s r_X0_copy_41 rfl rfl ?_
  refine xm_E_s r_X0_copy_42 rfl rfl ?_
  refine xm_E_s r_X0_copy_43 rfl (xm_T_gi rfl q0 rfl (Or.inl rfl)) ?_
  refine xm_E_s r_X0_copy_44 rfl (xm_T_pi rfl q1 rfl rfl) ?_
  refine xm_E_s r_X0_copy_45 rfl rfl ?_
  refine xm_E_s r_X0_copy_46 rfl rfl ?_
  refine xm_E_s r_X0_copy_47 rfl (xm_T_gi rfl q0 rfl (Or.inl rfl)) ?_
  refine xm_E_s r_X0_copy_48 rfl (xm_T_pi rfl q1 rfl rfl) ?_
  refine xm_E_s r_X0_copy_49 rfl rfl ?_
  refine xm_E_s r_X0_copy_50 rfl rfl ?_
  refine xm_E_s r_X0_copy_51 rfl (xm_T_gi rfl q0 rfl (Or.inl rfl)) ?_
  refine xm_E_s r_X0_copy_52 rfl (xm_T_pi rfl q1 rfl rfl) ?_
  refine xm_E_s r_X0_copy_53 rfl rfl ?_
  refine xm_E_s r_X0_copy_54 rfl (xm_T_gr rfl q0 rfl rfl q6) ?_
  refine xm_E_s r_X0_copy_55 rfl rfl ?_
  refine xm_E_s r_X0_copy_56 rfl (xm_T_gr rfl q1 rfl rfl q7) ?_
  refine xm_E_cs [.ref v3, .ref v4] [] r_X0_copy_57 rfl rfl rfl (Nat.le_of_ble_eq_true rfl) rfl q8 ?_
  refine xm_E_s r_X0_copy_58 rfl rfl ?_
  refine xm_E_s r_X0_copy_59 rfl (xm_T_gr rfl q0 rfl rfl q9) ?_
  refine xm_E_s r_X0_copy_60 rfl rfl ?_
  refine xm_E_s r_X0_copy_61 rfl (xm_T_gr rfl q1 rfl rfl q10) ?_
  refine xm_E_cs [.ref v6, .ref v7] [] r_X0_copy_62 rfl rfl rfl (Nat.le_of_ble_eq_true rfl) rfl q11 ?_
  refine xm_E_s r_X0_copy_63 rfl rfl ?_
  refine xm_E_s r_X0_copy_64 rfl (xm_T_gr rfl q0 rfl rfl q12) ?_
  refine xm_E_s r_X0_copy_65 rfl rfl ?_
  refine xm_E_s r_X0_copy_66 rfl (xm_T_gr rfl q1 rfl rfl q13) ?_
  refine xm_E_cs [.ref v9, .ref v10] [] r_X0_copy_67 rfl rfl rfl (Nat.le_of_ble_eq_true rfl) rfl q14 ?_
  refine xm_E_s r_X0_copy_68 rfl rfl ?_
  refine xm_E_s r_X0_copy_69 rfl (xm_T_gr rfl q0 rfl rfl q15) ?_
  refine xm_E_s r_X0_copy_70 rfl rfl ?_
  refine xm_E_s r_X0_copy_71 rfl (xm_T_gr rfl q1 rfl rfl q16) ?_
  refine xm_E_cs [.ref v12, .ref v13] [] r_X0_copy_72 rfl rfl rfl (Nat.le_of_ble_eq_true rfl) rfl q17 ?_
  refine xm_E_s r_X0_copy_73 rfl rfl ?_
  refine xm_E_s r_X0_copy_74 rfl (xm_T_gr rfl q0 rfl rfl q18) ?_
  refine xm_E_s r_X0_copy_75 rfl rfl ?_
  refine xm_E_s r_X0_copy_76 rfl (xm_T_gr rfl q1 rfl rfl q19) ?_
  refine xm_E_cs [.ref v15, .ref v16] [] r_X0_copy_77 rfl rfl rfl (Nat.le_of_ble_eq_true rfl) rfl q20 ?_
  refine xm_E_s r_X0_copy_78 rfl rfl ?_
  refine xm_E_s r_X0_copy_79 rfl (xm_T_gr rfl q0 rfl rfl q21) ?_
  refine xm_E_s r_X0_copy_80 rfl rfl ?_
  refine xm_E_s r_X0_copy_81 rfl (xm_T_gr rfl q1 rfl rfl q22) ?_
  refine xm_E_cs [.ref v18, .ref v19] [] r_X0_copy_82 rfl rfl rfl (Nat.le_of_ble_eq_true rfl) rfl q23 ?_
  exact xm_E_ret r_X0_copy_83 rfl
theorem r_X8_copy_0 : co_X8_copy[0]? = some ((0, .aload_n 0, 0, 0, 0, 0, 0, 0, []) : xm_I) := rfl
theorem r_X8_copy_1 : co_X8_copy[1]? = some ((1, .aload_n 1, 0, 0, 0, 0, 0, 0, []) : xm_I) := rfl
theorem r_X8_copy_2 : co_X8_copy[2]? = some ((2, .getfield 7, 188, 7, 0, 0, 0, 0, []) : xm_I) := rfl
theorem r_X8_copy_3 : co_X8_copy[3]? = some ((5, .putfield 7, 188, 7, 0, 0, 0, 0, []) : xm_I) := rfl
theorem r_X8_copy_4 : co_X8_copy[4]? = some ((8, .aload_n 0, 0, 0, 0, 0, 0, 0, []) : xm_I) := rfl
theorem r_X8_copy_5 : co_X8_copy[5]? = some ((9, .aload_n 1, 0, 0, 0, 0, 0, 0, []) : xm_I) := rfl
theorem r_X8_copy_6 : co_X8_copy[6]? = some ((10, .getfield 22, 191, 7, 1, 0, 0, 0, []) : xm_I) := rfl
theorem r_X8_copy_7 : co_X8_copy[7]? = some ((13, .putfield 22, 191, 7, 1, 0, 0, 0, []) : xm_I) := rfl
theorem r_X8_copy_8 : co_X8_copy[8]? = some ((16, .aload_n 0, 0, 0, 0, 0, 0, 0, []) : xm_I) := rfl
theorem r_X8_copy_9 : co_X8_copy[9]? = some ((17, .aload_n 1, 0, 0, 0, 0, 0, 0, []) : xm_I) := rfl
theorem r_X8_copy_10 : co_X8_copy[10]? = some ((18, .getfield 28, 193, 7, 2, 0, 0, 0, []) : xm_I) := rfl
theorem r_X8_copy_11 : co_X8_copy[11]? = some ((21, .putfield 28, 193, 7, 2, 0, 0, 0, []) : xm_I) := rfl
theorem r_X8_copy_12 : co_X8_copy[12]? = some ((24, .aload_n 0, 0, 0, 0, 0, 0, 0, []) : xm_I) := rfl
theorem r_X8_copy_13 : co_X8_copy[13]? = some ((25, .aload_n 1, 0, 0, 0, 0, 0, 0, []) : xm_I) := rfl
theorem r_X8_copy_14 : co_X8_copy[14]? = some ((26, .getfield 34, 195, 7, 3, 0, 0, 0, []) : xm_I) := rfl
theorem r_X8_copy_15 : co_X8_copy[15]? = some ((29, .putfield 34, 195, 7, 3, 0, 0, 0, []) : xm_I) := rfl
theorem r_X8_copy_16 : co_X8_copy[16]? = some ((32, .return_, 0, 0, 0, 0, 0, 0, []) : xm_I) := rfl
theorem p_X8_copy_0_0 {X : xm_X} {P : List xm_M} {d : Nat} {h : xm_H} {l0 : Nat} {l1 : Nat} (q0 : X.1[l1]? = some (.inr 7)) (q1 : X.1[l0]? = some (.inr 7)) : xm_E X P d co_X8_copy 0 [some (.ref l0), some (.ref l1)] [] h none (xm_si (xm_si (xm_si (xm_si h l0 0 (h.1 l1 0)) l0 1 ((xm_si h l0 0 (h.1 l1 0)).1 l1 1)) l0 2 ((xm_si (xm_si h l0 0 (h.1 l1 0)) l0 1 ((xm_si h l0 0 (h.1 l1 0)).1 l1 1)).1 l1 2)) l0 3 ((xm_si (xm_si (xm_si h l0 0 (h.1 l1 0)) l0 1 ((xm_si h l0 0 (h.1 l1 0)).1 l1 1)) l0 2 ((xm_si (xm_si h l0 0 (h.1 l1 0)) l0 1 ((xm_si h l0 0 (h.1 l1 0)).1 l1 1)).1 l1 2)).1 l1 3)) := by
  refine xm_E_s r_X8_copy_0 rfl rfl ?_
  refine xm_E_s r_X8_copy_1 rfl rfl ?_
  refine xm_E_s r_X8_copy_2 rfl (xm_T_gi rfl q0 rfl (Or.inl rfl)) ?_
  refine xm_E_s r_X8_copy_3 rfl (xm_T_pi rfl q1 rfl rfl) ?_
  refine xm_E_s r_X8_copy_4 rfl rfl ?_
  refine xm_E_s r_X8_copy_5 rfl rfl ?_
  refine xm_E_s r_X8_copy_6 rfl (xm_T_gi rfl q0 rfl (Or.inl rfl)) ?_
  refine xm_E_s r_X8_copy_7 rfl (xm_T_pi rfl q1 rfl rfl) ?_
  refine xm_E_s r_X8_copy_8 rfl rfl ?_
  refine xm_E_s r_X8_copy_9 rfl rfl ?_
  refine xm_E_s r_X8_copy_10 rfl (xm_T_gi rfl q0 rfl (Or.inl rfl)) ?_
  refine xm_E_s r_X8_copy_11 rfl (xm_T_pi rfl q1 rfl rfl) ?_
  refine xm_E_s r_X8_copy_12 rfl rfl ?_
  refine xm_E_s r_X8_copy_13 rfl rfl ?_
  refine xm_E_s r_X8_copy_14 rfl (xm_T_gi rfl q0 rfl (Or.inl rfl)) ?_
  refine xm_E_s r_X8_copy_15 rfl (xm_T_pi rfl q1 rfl rfl) ?_
  exact xm_E_ret r_X8_copy_16 rfl
theorem r_X0_copyAll_0 : co_X0_copyAll[0]? = some ((0, .aload_n 0, 0, 0, 0, 0, 0, 0, []) : xm_I) := rfl
theorem r_X0_copyAll_1 : co_X0_copyAll[1]? = some ((1, .iconst 0, 0, 0, 0, 0, 0, 0, []) : xm_I) := rfl
theorem r_X0_copyAll_2 : co_X0_copyAll[2]? = some ((2, .aload_n 1, 0, 0, 0, 0, 0, 0, []) : xm_I) := rfl
theorem r_X0_copyAll_3 : co_X0_copyAll[3]? = some ((3, .iconst 0, 0, 0, 0, 0, 0, 0, []) : xm_I) := rfl
theorem r_X0_copyAll_4 : co_X0_copyAll[4]? = some ((4, .aload_n 0, 0, 0, 0, 0, 0, 0, []) : xm_I) := rfl
theorem r_X0_copyAll_5 : co_X0_copyAll[5]? = some ((5, .arraylength, 0, 0, 0, 0, 0, 0, []) : xm_I) := rfl
theorem r_X0_copyAll_6 : co_X0_copyAll[6]? = some ((6, .aload_n 1, 0, 0, 0, 0, 0, 0, []) : xm_I) := rfl
theorem r_X0_copyAll_7 : co_X0_copyAll[7]? = some ((7, .arraylength, 0, 0, 0, 0, 0, 0, []) : xm_I) := rfl
theorem r_X0_copyAll_8 : co_X0_copyAll[8]? = some ((8, .invokestatic 91, 1332, 0, 0, 3, 0, 0, []) : xm_I) := rfl
theorem r_X0_copyAll_9 : co_X0_copyAll[9]? = some ((11, .invokestatic 97, 1333, 0, 0, 1, 0, 0, []) : xm_I) := rfl
theorem r_X0_copyAll_10 : co_X0_copyAll[10]? = some ((14, .return_, 0, 0, 0, 0, 0, 0, []) : xm_I) := rfl
theorem p_X0_copyAll_0_0 {X : xm_X} {P : List xm_M} {d : Nat} {h : xm_H} {l0 : Nat} {l1 : Nat} {n0 : Nat} {n1 : Nat} (q0 : X.1[l0]? = some (.inl (0, n0))) (q1 : X.1[l1]? = some (.inl (0, n1))) (q2 : ¬ ((0 : Int32) < 0 ∨ (0 : Int32) < 0 ∨ (if Int32.ofNat n1 < Int32.ofNat n0 then Int32.ofNat n1 else Int32.ofNat n0) < 0 ∨ n0 < (0 : Int32).toNatClampNeg + (if Int32.ofNat n1 < Int32.ofNat n0 then Int32.ofNat n1 else Int32.ofNat n0).toNatClampNeg ∨ n1 < (0 : Int32).toNatClampNeg + (if Int32.ofNat n1 < Int32.ofNat n0 then Int32.ofNat n1 else Int32.ofNat n0).toNatClampNeg ∨ 8 < (([] : List Value).map fun v => v.category).sum)) : xm_E X P d co_X0_copyAll 0 [some (.ref l0), some (.ref l1)] [] h none (xm_ci_cpy h l0 l1 (0 : Int32).toNatClampNeg (0 : Int32).toNatClampNeg (if Int32.ofNat n1 < Int32.ofNat n0 then Int32.ofNat n1 else Int32.ofNat n0).toNatClampNeg) := by
  refine xm_E_s r_X0_copyAll_0 rfl rfl ?_
  refine xm_E_s r_X0_copyAll_1 rfl rfl ?_
  refine xm_E_s r_X0_copyAll_2 rfl rfl ?_
  refine xm_E_s r_X0_copyAll_3 rfl rfl ?_
  refine xm_E_s r_X0_copyAll_4 rfl rfl ?_
  refine xm_E_s r_X0_copyAll_5 rfl (xm_T_alen rfl q0 (by decide)) ?_
  refine xm_E_s r_X0_copyAll_6 rfl rfl ?_
  refine xm_E_s r_X0_copyAll_7 rfl (xm_T_alen rfl q1 (by decide)) ?_
  refine xm_E_s r_X0_copyAll_8 rfl rfl ?_
  refine xm_E_s r_X0_copyAll_9 rfl (xm_T_cpi rfl rfl q0 q1 q2) ?_
  exact xm_E_ret r_X0_copyAll_10 rfl
theorem r_X2_make_0 : co_X2_make[0]? = some ((0, .aload_n 0, 0, 0, 0, 0, 0, 0, []) : xm_I) := rfl
theorem r_X2_make_1 : co_X2_make[1]? = some ((1, .iconst 1, 0, 0, 0, 0, 1, 0, []) : xm_I) := rfl
theorem r_X2_make_2 : co_X2_make[2]? = some ((2, .putfield 15, 464, 2, 1, 3, 0, 0, []) : xm_I) := rfl
theorem r_X2_make_3 : co_X2_make[3]? = some ((5, .aload_n 0, 0, 0, 0, 0, 0, 0, []) : xm_I) := rfl
theorem r_X2_make_4 : co_X2_make[4]? = some ((6, .iload_n 1, 0, 0, 0, 0, 0, 0, []) : xm_I) := rfl
theorem r_X2_make_5 : co_X2_make[5]? = some ((7, .putfield 19, 466, 2, 2, 0, 0, 0, []) : xm_I) := rfl
theorem r_X2_make_6 : co_X2_make[6]? = some ((10, .aload_n 0, 0, 0, 0, 0, 0, 0, []) : xm_I) := rfl
theorem r_X2_make_7 : co_X2_make[7]? = some ((11, .iconst 0, 0, 0, 0, 0, 0, 0, []) : xm_I) := rfl
theorem r_X2_make_8 : co_X2_make[8]? = some ((12, .iload_n 2, 0, 0, 0, 0, 0, 0, []) : xm_I) := rfl
theorem r_X2_make_9 : co_X2_make[9]? = some ((13, .bipush 60, 0, 0, 0, 0, 60, 0, []) : xm_I) := rfl
theorem r_X2_make_10 : co_X2_make[10]? = some ((15, .invokestatic 23, 1347, 0, 0, 3, 0, 0, []) : xm_I) := rfl
theorem r_X2_make_11 : co_X2_make[11]? = some ((18, .invokestatic 29, 1348, 0, 0, 2, 0, 0, []) : xm_I) := rfl
theorem r_X2_make_12 : co_X2_make[12]? = some ((21, .putfield 32, 468, 2, 3, 0, 0, 0, []) : xm_I) := rfl
theorem r_X2_make_13 : co_X2_make[13]? = some ((24, .aload_n 0, 0, 0, 0, 0, 0, 0, []) : xm_I) := rfl
theorem r_X2_make_14 : co_X2_make[14]? = some ((25, .getfield 9, 462, 2, 0, 2, 0, 0, []) : xm_I) := rfl
theorem r_X2_make_15 : co_X2_make[15]? = some ((28, .lconst 0, 0, 0, 0, 0, 0, 0, []) : xm_I) := rfl
theorem r_X2_make_16 : co_X2_make[16]? = some ((29, .invokestatic 35, 1349, 184, 2, 0, 0, 0, []) : xm_I) := rfl
theorem r_X2_make_17 : co_X2_make[17]? = some ((32, .return_, 0, 0, 0, 0, 0, 0, []) : xm_I) := rfl
theorem p_X2_make_0_0 {X : xm_X} {P : List xm_M} {d : Nat} {h : xm_H} {l0 : Nat} {l1 : Int32} {l2 : Int32} {v0 : Nat} {h1 : xm_H} (q0 : X.1[l0]? = some (.inr 2)) (q1 : (xm_si (xm_si (xm_si h l0 1 (1 : Int32)) l0 2 l1) l0 3 (if (0 : Int32) < if (60 : Int32) < l2 then (60 : Int32) else l2 then if (60 : Int32) < l2 then (60 : Int32) else l2 else (0 : Int32))).2.2 l0 0 = some v0) (q2 : xm_V X P d 184 [.ref v0, .long (0 : Int64)] (xm_si (xm_si (xm_si h l0 1 (1 : Int32)) l0 2 l1) l0 3 (if (0 : Int32) < if (60 : Int32) < l2 then (60 : Int32) else l2 then if (60 : Int32) < l2 then (60 : Int32) else l2 else (0 : Int32))) none h1) : xm_E X P d co_X2_make 0 [some (.ref l0), some (.int l1), some (.int l2)] [] h none h1 := by
  refine xm_E_s r_X2_make_0 rfl rfl ?_
  refine xm_E_s r_X2_make_1 rfl rfl ?_
  refine xm_E_s r_X2_make_2 rfl (xm_T_pz rfl q0 rfl rfl (by decide)) ?_
  refine xm_E_s r_X2_make_3 rfl rfl ?_
  refine xm_E_s r_X2_make_4 rfl rfl ?_
  refine xm_E_s r_X2_make_5 rfl (xm_T_pi rfl q0 rfl rfl) ?_
  refine xm_E_s r_X2_make_6 rfl rfl ?_
  refine xm_E_s r_X2_make_7 rfl rfl ?_
  refine xm_E_s r_X2_make_8 rfl rfl ?_
  refine xm_E_s r_X2_make_9 rfl rfl ?_
  refine xm_E_s r_X2_make_10 rfl rfl ?_
  refine xm_E_s r_X2_make_11 rfl rfl ?_
  refine xm_E_s r_X2_make_12 rfl (xm_T_pi rfl q0 rfl rfl) ?_
  refine xm_E_s r_X2_make_13 rfl rfl ?_
  refine xm_E_s r_X2_make_14 rfl (xm_T_gr rfl q0 rfl rfl q1) ?_
  refine xm_E_s r_X2_make_15 rfl rfl ?_
  refine xm_E_cs [.ref v0, .long (0 : Int64)] [] r_X2_make_16 rfl rfl rfl (Nat.le_of_ble_eq_true rfl) rfl q2 ?_
  exact xm_E_ret r_X2_make_17 rfl
theorem r_X2_put_0 : co_X2_put[0]? = some ((0, .iload_n 1, 0, 0, 0, 0, 0, 0, []) : xm_I) := rfl
theorem r_X2_put_1 : co_X2_put[1]? = some ((1, .ifCond .lt 22, 0, 0, 13, 0, 0, 0, []) : xm_I) := rfl
theorem r_X2_put_2 : co_X2_put[2]? = some ((4, .iload_n 1, 0, 0, 0, 0, 0, 0, []) : xm_I) := rfl
theorem r_X2_put_3 : co_X2_put[3]? = some ((5, .aload_n 0, 0, 0, 0, 0, 0, 0, []) : xm_I) := rfl
theorem r_X2_put_4 : co_X2_put[4]? = some ((6, .getfield 32, 468, 2, 3, 0, 0, 0, []) : xm_I) := rfl
theorem r_X2_put_5 : co_X2_put[5]? = some ((9, .if_icmp .ge 14, 0, 0, 13, 0, 0, 0, []) : xm_I) := rfl
theorem r_X2_put_6 : co_X2_put[6]? = some ((12, .aload_n 0, 0, 0, 0, 0, 0, 0, []) : xm_I) := rfl
theorem r_X2_put_7 : co_X2_put[7]? = some ((13, .getfield 9, 462, 2, 0, 2, 0, 0, []) : xm_I) := rfl
theorem r_X2_put_8 : co_X2_put[8]? = some ((16, .iload_n 1, 0, 0, 0, 0, 0, 0, []) : xm_I) := rfl
theorem r_X2_put_9 : co_X2_put[9]? = some ((17, .aload_n 0, 0, 0, 0, 0, 0, 0, []) : xm_I) := rfl
theorem r_X2_put_10 : co_X2_put[10]? = some ((18, .lload_n 2, 0, 0, 0, 0, 0, 0, []) : xm_I) := rfl
theorem r_X2_put_11 : co_X2_put[11]? = some ((19, .invokevirtual 41, 1360, 187, 2, 2, 0, 0, []) : xm_I) := rfl
theorem r_X2_put_12 : co_X2_put[12]? = some ((22, .lastore, 0, 0, 0, 0, 0, 0, []) : xm_I) := rfl
theorem r_X2_put_13 : co_X2_put[13]? = some ((23, .return_, 0, 0, 0, 0, 0, 0, []) : xm_I) := rfl
theorem p_X2_put_0_0 {X : xm_X} {P : List xm_M} {d : Nat} {h : xm_H} {l0 : Nat} {l1 : Int32} {l2 : Int64} (q0 : l1 < (0 : Int32)) : xm_E X P d co_X2_put 0 [some (.ref l0), some (.int l1), some (.long l2), none] [] h none h := by
  refine xm_E_s r_X2_put_0 rfl rfl ?_
  refine xm_E_s r_X2_put_1 rfl rfl ?_
  refine xm_E_t q0 ?_
  exact xm_E_ret r_X2_put_13 rfl
theorem p_X2_put_0_1 {X : xm_X} {P : List xm_M} {d : Nat} {h : xm_H} {l0 : Nat} {l1 : Int32} {l2 : Int64} (q0 : ¬ (l1 < (0 : Int32))) (q1 : X.1[l0]? = some (.inr 2)) (q2 : h.1 l0 3 ≤ l1) : xm_E X P d co_X2_put 0 [some (.ref l0), some (.int l1), some (.long l2), none] [] h none h := by
  refine xm_E_s r_X2_put_0 rfl rfl ?_
  refine xm_E_s r_X2_put_1 rfl rfl ?_
  refine xm_E_f q0 ?_
  refine xm_E_s r_X2_put_2 rfl rfl ?_
  refine xm_E_s r_X2_put_3 rfl rfl ?_
  refine xm_E_s r_X2_put_4 rfl (xm_T_gi rfl q1 rfl (Or.inl rfl)) ?_
  refine xm_E_s r_X2_put_5 rfl rfl ?_
  refine xm_E_t q2 ?_
  exact xm_E_ret r_X2_put_13 rfl
theorem p_X2_put_0_2 {X : xm_X} {P : List xm_M} {d : Nat} {h : xm_H} {l0 : Nat} {l1 : Int32} {l2 : Int64} {v0 : Nat} {h1 : xm_H} {r1 : Int64} {n2 : Nat} (q0 : ¬ (l1 < (0 : Int32))) (q1 : X.1[l0]? = some (.inr 2)) (q2 : ¬ (h.1 l0 3 ≤ l1)) (q3 : h.2.2 l0 0 = some v0) (q4 : xm_V X P d 187 [.ref l0, .long l2] h (some (.long r1)) h1) (q5 : X.1[v0]? = some (.inl (3, n2))) (q6 : ¬ (l1 < 0 ∨ n2 ≤ l1.toNatClampNeg)) : xm_E X P d co_X2_put 0 [some (.ref l0), some (.int l1), some (.long l2), none] [] h none (xm_sl h1 v0 l1.toNatClampNeg r1) := by
  refine xm_E_s r_X2_put_0 rfl rfl ?_
  refine xm_E_s r_X2_put_1 rfl rfl ?_
  refine xm_E_f q0 ?_
  refine xm_E_s r_X2_put_2 rfl rfl ?_
  refine xm_E_s r_X2_put_3 rfl rfl ?_
  refine xm_E_s r_X2_put_4 rfl (xm_T_gi rfl q1 rfl (Or.inl rfl)) ?_
  refine xm_E_s r_X2_put_5 rfl rfl ?_
  refine xm_E_f q2 ?_
  refine xm_E_s r_X2_put_6 rfl rfl ?_
  refine xm_E_s r_X2_put_7 rfl (xm_T_gr rfl q1 rfl rfl q3) ?_
  refine xm_E_s r_X2_put_8 rfl rfl ?_
  refine xm_E_s r_X2_put_9 rfl rfl ?_
  refine xm_E_s r_X2_put_10 rfl rfl ?_
  refine xm_E_cv [.ref l0, .long l2] [.int l1, .ref v0] r_X2_put_11 rfl rfl (Nat.le_of_ble_eq_true rfl) (xm_rc q1 (by decide)) rfl q4 ?_
  refine xm_E_s r_X2_put_12 rfl (xm_T_last rfl q5 q6) ?_
  exact xm_E_ret r_X2_put_13 rfl
theorem r_X2_cut_0 : co_X2_cut[0]? = some ((0, .aload_n 0, 0, 0, 0, 0, 0, 0, []) : xm_I) := rfl
theorem r_X2_cut_1 : co_X2_cut[1]? = some ((1, .getfield 19, 466, 2, 2, 0, 0, 0, []) : xm_I) := rfl
theorem r_X2_cut_2 : co_X2_cut[2]? = some ((4, .tableswitch 42 0 2 #[28, 33, 38], 0, 0, 17, 0, 0, 0, [3, 8, 13]) : xm_I) := rfl
theorem r_X2_cut_3 : co_X2_cut[3]? = some ((32, .lload_n 1, 0, 0, 0, 0, 0, 0, []) : xm_I) := rfl
theorem r_X2_cut_4 : co_X2_cut[4]? = some ((33, .l2i, 0, 0, 0, 0, 0, 0, []) : xm_I) := rfl
theorem r_X2_cut_5 : co_X2_cut[5]? = some ((34, .i2b, 0, 0, 0, 0, 0, 0, []) : xm_I) := rfl
theorem r_X2_cut_6 : co_X2_cut[6]? = some ((35, .i2l, 0, 0, 0, 0, 0, 0, []) : xm_I) := rfl
theorem r_X2_cut_7 : co_X2_cut[7]? = some ((36, .lreturn, 0, 0, 0, 0, 0, 0, []) : xm_I) := rfl
theorem r_X2_cut_8 : co_X2_cut[8]? = some ((37, .lload_n 1, 0, 0, 0, 0, 0, 0, []) : xm_I) := rfl
theorem r_X2_cut_9 : co_X2_cut[9]? = some ((38, .l2i, 0, 0, 0, 0, 0, 0, []) : xm_I) := rfl
theorem r_X2_cut_10 : co_X2_cut[10]? = some ((39, .i2s, 0, 0, 0, 0, 0, 0, []) : xm_I) := rfl
theorem r_X2_cut_11 : co_X2_cut[11]? = some ((40, .i2l, 0, 0, 0, 0, 0, 0, []) : xm_I) := rfl
theorem r_X2_cut_12 : co_X2_cut[12]? = some ((41, .lreturn, 0, 0, 0, 0, 0, 0, []) : xm_I) := rfl
theorem r_X2_cut_13 : co_X2_cut[13]? = some ((42, .lload_n 1, 0, 0, 0, 0, 0, 0, []) : xm_I) := rfl
theorem r_X2_cut_14 : co_X2_cut[14]? = some ((43, .l2i, 0, 0, 0, 0, 0, 0, []) : xm_I) := rfl
theorem r_X2_cut_15 : co_X2_cut[15]? = some ((44, .i2l, 0, 0, 0, 0, 0, 0, []) : xm_I) := rfl
theorem r_X2_cut_16 : co_X2_cut[16]? = some ((45, .lreturn, 0, 0, 0, 0, 0, 0, []) : xm_I) := rfl
theorem r_X2_cut_17 : co_X2_cut[17]? = some ((46, .lload_n 1, 0, 0, 0, 0, 0, 0, []) : xm_I) := rfl
theorem r_X2_cut_18 : co_X2_cut[18]? = some ((47, .lreturn, 0, 0, 0, 0, 0, 0, []) : xm_I) := rfl
theorem p_X2_cut_0_0 {X : xm_X} {P : List xm_M} {d : Nat} {h : xm_H} {l0 : Nat} {l1 : Int64} (q0 : X.1[l0]? = some (.inr 2)) (q1 : h.1 l0 2 = (0 : Int32)) : xm_E X P d co_X2_cut 0 [some (.ref l0), some (.long l1), none] [] h (some (.long l1.toInt32.toInt8.toInt32.toInt64)) h := by
  refine xm_E_s r_X2_cut_0 rfl rfl ?_
  refine xm_E_s r_X2_cut_1 rfl (xm_T_gi rfl q0 rfl (Or.inl rfl)) ?_
  refine xm_E_s r_X2_cut_2 rfl (xm_T_tab (0 : Int32) 3 rfl q1 (by decide) rfl) ?_
  refine xm_E_s r_X2_cut_3 rfl rfl ?_
  refine xm_E_s r_X2_cut_4 rfl rfl ?_
  refine xm_E_s r_X2_cut_5 rfl rfl ?_
  refine xm_E_s r_X2_cut_6 rfl rfl ?_
  exact xm_E_lret r_X2_cut_7 rfl
theorem p_X2_cut_0_1 {X : xm_X} {P : List xm_M} {d : Nat} {h : xm_H} {l0 : Nat} {l1 : Int64} (q0 : X.1[l0]? = some (.inr 2)) (q1 : h.1 l0 2 = (1 : Int32)) : xm_E X P d co_X2_cut 0 [some (.ref l0), some (.long l1), none] [] h (some (.long l1.toInt32.toInt16.toInt32.toInt64)) h := by
  refine xm_E_s r_X2_cut_0 rfl rfl ?_
  refine xm_E_s r_X2_cut_1 rfl (xm_T_gi rfl q0 rfl (Or.inl rfl)) ?_
  refine xm_E_s r_X2_cut_2 rfl (xm_T_tab (1 : Int32) 8 rfl q1 (by decide) rfl) ?_
  refine xm_E_s r_X2_cut_8 rfl rfl ?_
  refine xm_E_s r_X2_cut_9 rfl rfl ?_
  refine xm_E_s r_X2_cut_10 rfl rfl ?_
  refine xm_E_s r_X2_cut_11 rfl rfl ?_
  exact xm_E_lret r_X2_cut_12 rfl
theorem p_X2_cut_0_2 {X : xm_X} {P : List xm_M} {d : Nat} {h : xm_H} {l0 : Nat} {l1 : Int64} (q0 : X.1[l0]? = some (.inr 2)) (q1 : h.1 l0 2 = (2 : Int32)) : xm_E X P d co_X2_cut 0 [some (.ref l0), some (.long l1), none] [] h (some (.long l1.toInt32.toInt64)) h := by
  refine xm_E_s r_X2_cut_0 rfl rfl ?_
  refine xm_E_s r_X2_cut_1 rfl (xm_T_gi rfl q0 rfl (Or.inl rfl)) ?_
  refine xm_E_s r_X2_cut_2 rfl (xm_T_tab (2 : Int32) 13 rfl q1 (by decide) rfl) ?_
  refine xm_E_s r_X2_cut_13 rfl rfl ?_
  refine xm_E_s r_X2_cut_14 rfl rfl ?_
  refine xm_E_s r_X2_cut_15 rfl rfl ?_
  exact xm_E_lret r_X2_cut_16 rfl
theorem p_X2_cut_0_3 {X : xm_X} {P : List xm_M} {d : Nat} {h : xm_H} {l0 : Nat} {l1 : Int64} (q0 : X.1[l0]? = some (.inr 2)) (q1 : (h.1 l0 2).toInt < 0 ∨ 2 < (h.1 l0 2).toInt) : xm_E X P d co_X2_cut 0 [some (.ref l0), some (.long l1), none] [] h (some (.long l1)) h := by
  refine xm_E_s r_X2_cut_0 rfl rfl ?_
  refine xm_E_s r_X2_cut_1 rfl (xm_T_gi rfl q0 rfl (Or.inl rfl)) ?_
  refine xm_E_s r_X2_cut_2 rfl (xm_T_tabd rfl q1) ?_
  refine xm_E_s r_X2_cut_17 rfl rfl ?_
  exact xm_E_lret r_X2_cut_18 rfl
theorem r_X2_hasRun_0 : co_X2_hasRun[0]? = some ((0, .iload_n 1, 0, 0, 0, 0, 0, 0, []) : xm_I) := rfl
theorem r_X2_hasRun_1 : co_X2_hasRun[1]? = some ((1, .ifCond .lt 29, 0, 0, 16, 0, 0, 0, []) : xm_I) := rfl
theorem r_X2_hasRun_2 : co_X2_hasRun[2]? = some ((4, .iload_n 2, 0, 0, 0, 0, 0, 0, []) : xm_I) := rfl
theorem r_X2_hasRun_3 : co_X2_hasRun[3]? = some ((5, .ifCond .lt 25, 0, 0, 16, 0, 0, 0, []) : xm_I) := rfl
theorem r_X2_hasRun_4 : co_X2_hasRun[4]? = some ((8, .iload_n 2, 0, 0, 0, 0, 0, 0, []) : xm_I) := rfl
theorem r_X2_hasRun_5 : co_X2_hasRun[5]? = some ((9, .aload_n 0, 0, 0, 0, 0, 0, 0, []) : xm_I) := rfl
theorem r_X2_hasRun_6 : co_X2_hasRun[6]? = some ((10, .getfield 32, 468, 2, 3, 0, 0, 0, []) : xm_I) := rfl
theorem r_X2_hasRun_7 : co_X2_hasRun[7]? = some ((13, .if_icmp .gt 17, 0, 0, 16, 0, 0, 0, []) : xm_I) := rfl
theorem r_X2_hasRun_8 : co_X2_hasRun[8]? = some ((16, .iload_n 1, 0, 0, 0, 0, 0, 0, []) : xm_I) := rfl
theorem r_X2_hasRun_9 : co_X2_hasRun[9]? = some ((17, .aload_n 0, 0, 0, 0, 0, 0, 0, []) : xm_I) := rfl
theorem r_X2_hasRun_10 : co_X2_hasRun[10]? = some ((18, .getfield 32, 468, 2, 3, 0, 0, 0, []) : xm_I) := rfl
theorem r_X2_hasRun_11 : co_X2_hasRun[11]? = some ((21, .iload_n 2, 0, 0, 0, 0, 0, 0, []) : xm_I) := rfl
theorem r_X2_hasRun_12 : co_X2_hasRun[12]? = some ((22, .isub, 0, 0, 0, 0, 0, 0, []) : xm_I) := rfl
theorem r_X2_hasRun_13 : co_X2_hasRun[13]? = some ((23, .if_icmp .gt 7, 0, 0, 16, 0, 0, 0, []) : xm_I) := rfl
theorem r_X2_hasRun_14 : co_X2_hasRun[14]? = some ((26, .iconst 1, 0, 0, 0, 0, 1, 0, []) : xm_I) := rfl
theorem r_X2_hasRun_15 : co_X2_hasRun[15]? = some ((27, .goto 4, 0, 0, 17, 0, 0, 0, []) : xm_I) := rfl
theorem r_X2_hasRun_16 : co_X2_hasRun[16]? = some ((30, .iconst 0, 0, 0, 0, 0, 0, 0, []) : xm_I) := rfl
theorem r_X2_hasRun_17 : co_X2_hasRun[17]? = some ((31, .ireturn, 0, 0, 0, 3, 0, 0, []) : xm_I) := rfl
theorem p_X2_hasRun_0_0 {X : xm_X} {P : List xm_M} {d : Nat} {h : xm_H} {l0 : Nat} {l1 : Int32} {l2 : Int32} (q0 : l1 < (0 : Int32)) : xm_E X P d co_X2_hasRun 0 [some (.ref l0), some (.int l1), some (.int l2)] [] h (some (.int (0 : Int32))) h := by
  refine xm_E_s r_X2_hasRun_0 rfl rfl ?_
  refine xm_E_s r_X2_hasRun_1 rfl rfl ?_
  refine xm_E_t q0 ?_
  refine xm_E_s r_X2_hasRun_16 rfl rfl ?_
  exact xm_E_iret r_X2_hasRun_17 rfl rfl
theorem p_X2_hasRun_0_1 {X : xm_X} {P : List xm_M} {d : Nat} {h : xm_H} {l0 : Nat} {l1 : Int32} {l2 : Int32} (q0 : ¬ (l1 < (0 : Int32))) (q1 : l2 < (0 : Int32)) : xm_E X P d co_X2_hasRun 0 [some (.ref l0), some (.int l1), some (.int l2)] [] h (some (.int (0 : Int32))) h := by
  refine xm_E_s r_X2_hasRun_0 rfl rfl ?_
  refine xm_E_s r_X2_hasRun_1 rfl rfl ?_
  refine xm_E_f q0 ?_
  refine xm_E_s r_X2_hasRun_2 rfl rfl ?_
  refine xm_E_s r_X2_hasRun_3 rfl rfl ?_
  refine xm_E_t q1 ?_
  refine xm_E_s r_X2_hasRun_16 rfl rfl ?_
  exact xm_E_iret r_X2_hasRun_17 rfl rfl
theorem p_X2_hasRun_0_2 {X : xm_X} {P : List xm_M} {d : Nat} {h : xm_H} {l0 : Nat} {l1 : Int32} {l2 : Int32} (q0 : ¬ (l1 < (0 : Int32))) (q1 : ¬ (l2 < (0 : Int32))) (q2 : X.1[l0]? = some (.inr 2)) (q3 : h.1 l0 3 < l2) : xm_E X P d co_X2_hasRun 0 [some (.ref l0), some (.int l1), some (.int l2)] [] h (some (.int (0 : Int32))) h := by
  refine xm_E_s r_X2_hasRun_0 rfl rfl ?_
  refine xm_E_s r_X2_hasRun_1 rfl rfl ?_
  refine xm_E_f q0 ?_
  refine xm_E_s r_X2_hasRun_2 rfl rfl ?_
  refine xm_E_s r_X2_hasRun_3 rfl rfl ?_
  refine xm_E_f q1 ?_
  refine xm_E_s r_X2_hasRun_4 rfl rfl ?_
  refine xm_E_s r_X2_hasRun_5 rfl rfl ?_
  refine xm_E_s r_X2_hasRun_6 rfl (xm_T_gi rfl q2 rfl (Or.inl rfl)) ?_
  refine xm_E_s r_X2_hasRun_7 rfl rfl ?_
  refine xm_E_t q3 ?_
  refine xm_E_s r_X2_hasRun_16 rfl rfl ?_
  exact xm_E_iret r_X2_hasRun_17 rfl rfl
theorem p_X2_hasRun_0_3 {X : xm_X} {P : List xm_M} {d : Nat} {h : xm_H} {l0 : Nat} {l1 : Int32} {l2 : Int32} (q0 : ¬ (l1 < (0 : Int32))) (q1 : ¬ (l2 < (0 : Int32))) (q2 : X.1[l0]? = some (.inr 2)) (q3 : ¬ (h.1 l0 3 < l2)) (q4 : (h.1 l0 3) - l2 < l1) : xm_E X P d co_X2_hasRun 0 [some (.ref l0), some (.int l1), some (.int l2)] [] h (some (.int (0 : Int32))) h := by
  refine xm_E_s r_X2_hasRun_0 rfl rfl ?_
  refine xm_E_s r_X2_hasRun_1 rfl rfl ?_
  refine xm_E_f q0 ?_
  refine xm_E_s r_X2_hasRun_2 rfl rfl ?_
  refine xm_E_s r_X2_hasRun_3 rfl rfl ?_
  refine xm_E_f q1 ?_
  refine xm_E_s r_X2_hasRun_4 rfl rfl ?_
  refine xm_E_s r_X2_hasRun_5 rfl rfl ?_
  refine xm_E_s r_X2_hasRun_6 rfl (xm_T_gi rfl q2 rfl (Or.inl rfl)) ?_
  refine xm_E_s r_X2_hasRun_7 rfl rfl ?_
  refine xm_E_f q3 ?_
  refine xm_E_s r_X2_hasRun_8 rfl rfl ?_
  refine xm_E_s r_X2_hasRun_9 rfl rfl ?_
  refine xm_E_s r_X2_hasRun_10 rfl (xm_T_gi rfl q2 rfl (Or.inl rfl)) ?_
  refine xm_E_s r_X2_hasRun_11 rfl rfl ?_
  refine xm_E_s r_X2_hasRun_12 rfl rfl ?_
  refine xm_E_s r_X2_hasRun_13 rfl rfl ?_
  refine xm_E_t q4 ?_
  refine xm_E_s r_X2_hasRun_16 rfl rfl ?_
  exact xm_E_iret r_X2_hasRun_17 rfl rfl
theorem p_X2_hasRun_0_4 {X : xm_X} {P : List xm_M} {d : Nat} {h : xm_H} {l0 : Nat} {l1 : Int32} {l2 : Int32} (q0 : ¬ (l1 < (0 : Int32))) (q1 : ¬ (l2 < (0 : Int32))) (q2 : X.1[l0]? = some (.inr 2)) (q3 : ¬ (h.1 l0 3 < l2)) (q4 : ¬ ((h.1 l0 3) - l2 < l1)) : xm_E X P d co_X2_hasRun 0 [some (.ref l0), some (.int l1), some (.int l2)] [] h (some (.int (1 : Int32))) h := by
  refine xm_E_s r_X2_hasRun_0 rfl rfl ?_
  refine xm_E_s r_X2_hasRun_1 rfl rfl ?_
  refine xm_E_f q0 ?_
  refine xm_E_s r_X2_hasRun_2 rfl rfl ?_
  refine xm_E_s r_X2_hasRun_3 rfl rfl ?_
  refine xm_E_f q1 ?_
  refine xm_E_s r_X2_hasRun_4 rfl rfl ?_
  refine xm_E_s r_X2_hasRun_5 rfl rfl ?_
  refine xm_E_s r_X2_hasRun_6 rfl (xm_T_gi rfl q2 rfl (Or.inl rfl)) ?_
  refine xm_E_s r_X2_hasRun_7 rfl rfl ?_
  refine xm_E_f q3 ?_
  refine xm_E_s r_X2_hasRun_8 rfl rfl ?_
  refine xm_E_s r_X2_hasRun_9 rfl rfl ?_
  refine xm_E_s r_X2_hasRun_10 rfl (xm_T_gi rfl q2 rfl (Or.inl rfl)) ?_
  refine xm_E_s r_X2_hasRun_11 rfl rfl ?_
  refine xm_E_s r_X2_hasRun_12 rfl rfl ?_
  refine xm_E_s r_X2_hasRun_13 rfl rfl ?_
  refine xm_E_f q4 ?_
  refine xm_E_s r_X2_hasRun_14 rfl rfl ?_
  refine xm_E_s r_X2_hasRun_15 rfl rfl ?_
  exact xm_E_iret r_X2_hasRun_17 rfl rfl
theorem r_J3_checkIndex_8e157_0 : co_J3_checkIndex_8e157[0]? = some ((0, .iload_n 0, 0, 0, 0, 0, 0, 0, []) : xm_I) := rfl
theorem r_J3_checkIndex_8e157_1 : co_J3_checkIndex_8e157[1]? = some ((1, .ifCond .lt 8, 0, 0, 5, 0, 0, 0, []) : xm_I) := rfl
theorem r_J3_checkIndex_8e157_2 : co_J3_checkIndex_8e157[2]? = some ((4, .iload_n 0, 0, 0, 0, 0, 0, 0, []) : xm_I) := rfl
theorem r_J3_checkIndex_8e157_3 : co_J3_checkIndex_8e157[3]? = some ((5, .iload_n 1, 0, 0, 0, 0, 0, 0, []) : xm_I) := rfl
theorem r_J3_checkIndex_8e157_4 : co_J3_checkIndex_8e157[4]? = some ((6, .if_icmp .lt 10, 0, 0, 10, 0, 0, 0, []) : xm_I) := rfl
theorem r_J3_checkIndex_8e157_5 : co_J3_checkIndex_8e157[5]? = some ((9, .aload_n 2, 0, 0, 0, 0, 0, 0, []) : xm_I) := rfl
theorem r_J3_checkIndex_8e157_6 : co_J3_checkIndex_8e157[6]? = some ((10, .iload_n 0, 0, 0, 0, 0, 0, 0, []) : xm_I) := rfl
theorem r_J3_checkIndex_8e157_7 : co_J3_checkIndex_8e157[7]? = some ((11, .iload_n 1, 0, 0, 0, 0, 0, 0, []) : xm_I) := rfl
theorem r_J3_checkIndex_8e157_8 : co_J3_checkIndex_8e157[8]? = some ((12, .invokestatic 95, 0, 0, 0, 7, 0, 0, []) : xm_I) := rfl
theorem r_J3_checkIndex_8e157_10 : co_J3_checkIndex_8e157[10]? = some ((16, .iload_n 0, 0, 0, 0, 0, 0, 0, []) : xm_I) := rfl
theorem r_J3_checkIndex_8e157_11 : co_J3_checkIndex_8e157[11]? = some ((17, .ireturn, 0, 0, 0, 0, 0, 0, []) : xm_I) := rfl
theorem p_J3_checkIndex_8e157_0_0 {X : xm_X} {P : List xm_M} {d : Nat} {h : xm_H} {l0 : Int32} {l1 : Int32} {l2 : Nat} (q0 : ¬ (l0 < (0 : Int32))) (q1 : l0 < l1) : xm_E X P d co_J3_checkIndex_8e157 0 [some (.int l0), some (.int l1), some (.ref l2)] [] h (some (.int l0)) h := by
  refine xm_E_s r_J3_checkIndex_8e157_0 rfl rfl ?_
  refine xm_E_s r_J3_checkIndex_8e157_1 rfl rfl ?_
  refine xm_E_f q0 ?_
  refine xm_E_s r_J3_checkIndex_8e157_2 rfl rfl ?_
  refine xm_E_s r_J3_checkIndex_8e157_3 rfl rfl ?_
  refine xm_E_s r_J3_checkIndex_8e157_4 rfl rfl ?_
  refine xm_E_t q1 ?_
  refine xm_E_s r_J3_checkIndex_8e157_10 rfl rfl ?_
  exact xm_E_iret r_J3_checkIndex_8e157_11 rfl rfl
end XMPA
