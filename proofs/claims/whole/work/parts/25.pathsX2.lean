/-! Ways through methods, printed by wip/gen/paths.py -/
section XMPA
theorem r_X10_alike_0 : co_X10_alike[0]? = some ((0, .aload_n 0, 0, 0, 0, 0, 0, 0, []) : xm_I) := rfl
theorem r_X10_alike_1 : co_X10_alike[1]? = some ((1, .getfield 19, 482, 9, 1, 2, 0, 0, []) : xm_I) := rfl
theorem r_X10_alike_2 : co_X10_alike[2]? = some ((4, .invokevirtual 113, 696, 36, 1, 8, 0, 0, []) : xm_I) := rfl
theorem r_X10_alike_3 : co_X10_alike[3]? = some ((7, .ifCond .eq 6, 0, 0, 6, 0, 0, 0, []) : xm_I) := rfl
theorem r_X10_alike_4 : co_X10_alike[4]? = some ((10, .bipush (-2), 0, 0, 0, 0, (-2), 0, []) : xm_I) := rfl
theorem r_X10_alike_5 : co_X10_alike[5]? = some ((12, .ireturn, 0, 0, 0, 0, 0, 0, []) : xm_I) := rfl
theorem r_X10_alike_6 : co_X10_alike[6]? = some ((13, .iconst 0, 0, 0, 0, 0, 0, 0, []) : xm_I) := rfl
theorem r_X10_alike_7 : co_X10_alike[7]? = some ((14, .istore_n 1, 0, 0, 0, 0, 0, 0, []) : xm_I) := rfl
theorem r_X10_alike_8 : co_X10_alike[8]? = some ((15, .iconst 0, 0, 0, 0, 0, 0, 0, []) : xm_I) := rfl
theorem r_X10_alike_9 : co_X10_alike[9]? = some ((16, .istore_n 2, 0, 0, 0, 0, 0, 0, []) : xm_I) := rfl
theorem r_X10_alike_10 : co_X10_alike[10]? = some ((17, .iload_n 2, 0, 0, 0, 0, 0, 0, []) : xm_I) := rfl
theorem r_X10_alike_11 : co_X10_alike[11]? = some ((18, .aload_n 0, 0, 0, 0, 0, 0, 0, []) : xm_I) := rfl
theorem r_X10_alike_12 : co_X10_alike[12]? = some ((19, .getfield 19, 482, 9, 1, 2, 0, 0, []) : xm_I) := rfl
theorem r_X10_alike_13 : co_X10_alike[13]? = some ((22, .getfield 103, 305, 8, 0, 2, 0, 0, []) : xm_I) := rfl
theorem r_X10_alike_14 : co_X10_alike[14]? = some ((25, .getfield 255, 226, 0, 6, 0, 0, 0, []) : xm_I) := rfl
theorem r_X10_alike_15 : co_X10_alike[15]? = some ((28, .if_icmp .ge 40, 0, 0, 35, 0, 0, 0, []) : xm_I) := rfl
theorem r_X10_alike_16 : co_X10_alike[16]? = some ((31, .aload_n 0, 0, 0, 0, 0, 0, 0, []) : xm_I) := rfl
theorem r_X10_alike_17 : co_X10_alike[17]? = some ((32, .getfield 19, 482, 9, 1, 2, 0, 0, []) : xm_I) := rfl
theorem r_X10_alike_18 : co_X10_alike[18]? = some ((35, .getfield 103, 305, 8, 0, 2, 0, 0, []) : xm_I) := rfl
theorem r_X10_alike_19 : co_X10_alike[19]? = some ((38, .iload_n 2, 0, 0, 0, 0, 0, 0, []) : xm_I) := rfl
theorem r_X10_alike_20 : co_X10_alike[20]? = some ((39, .invokevirtual 273, 1111, 58, 2, 0, 0, 0, []) : xm_I) := rfl
theorem r_X10_alike_21 : co_X10_alike[21]? = some ((42, .aload_n 0, 0, 0, 0, 0, 0, 0, []) : xm_I) := rfl
theorem r_X10_alike_22 : co_X10_alike[22]? = some ((43, .getfield 19, 482, 9, 1, 2, 0, 0, []) : xm_I) := rfl
theorem r_X10_alike_23 : co_X10_alike[23]? = some ((46, .getfield 103, 305, 8, 0, 2, 0, 0, []) : xm_I) := rfl
theorem r_X10_alike_24 : co_X10_alike[24]? = some ((49, .iload_n 2, 0, 0, 0, 0, 0, 0, []) : xm_I) := rfl
theorem r_X10_alike_25 : co_X10_alike[25]? = some ((50, .invokevirtual 276, 1112, 59, 2, 0, 0, 0, []) : xm_I) := rfl
theorem r_X10_alike_26 : co_X10_alike[26]? = some ((53, .if_icmp .ne 9, 0, 0, 33, 0, 0, 0, []) : xm_I) := rfl
theorem r_X10_alike_27 : co_X10_alike[27]? = some ((56, .iload_n 1, 0, 0, 0, 0, 0, 0, []) : xm_I) := rfl
theorem r_X10_alike_28 : co_X10_alike[28]? = some ((57, .iconst 1, 0, 0, 0, 0, 1, 0, []) : xm_I) := rfl
theorem r_X10_alike_29 : co_X10_alike[29]? = some ((58, .iload_n 2, 0, 0, 0, 0, 0, 0, []) : xm_I) := rfl
theorem r_X10_alike_30 : co_X10_alike[30]? = some ((59, .ishl, 0, 0, 0, 0, 0, 0, []) : xm_I) := rfl
theorem r_X10_alike_31 : co_X10_alike[31]? = some ((60, .ior, 0, 0, 0, 0, 0, 0, []) : xm_I) := rfl
theorem r_X10_alike_32 : co_X10_alike[32]? = some ((61, .istore_n 1, 0, 0, 0, 0, 0, 0, []) : xm_I) := rfl
theorem r_X10_alike_33 : co_X10_alike[33]? = some ((62, .iinc 2 1, 0, 0, 0, 0, 1, 0, []) : xm_I) := rfl
theorem r_X10_alike_34 : co_X10_alike[34]? = some ((65, .goto (-48), 0, 0, 10, 0, 0, 0, []) : xm_I) := rfl
theorem r_X10_alike_35 : co_X10_alike[35]? = some ((68, .iload_n 1, 0, 0, 0, 0, 0, 0, []) : xm_I) := rfl
theorem r_X10_alike_36 : co_X10_alike[36]? = some ((69, .ireturn, 0, 0, 0, 0, 0, 0, []) : xm_I) := rfl
theorem p_X10_alike_0_0 {X : xm_X} {P : List xm_M} {d : Nat} {h : xm_H} {l0 : Nat} {v0 : Nat} {h1 : xm_H} {r1 : Int32} {ro : Option Value} {ho : xm_H} (q0 : X.1[l0]? = some (.inr 9)) (q1 : h.2.2 l0 1 = some v0) (q2 : xm_V X P d 36 [.ref v0] h (some (.int r1)) h1) (q3 : X.1[v0]? = some (.inr 8)) (q4 : r1 = (0 : Int32)) (K : xm_E X P d co_X10_alike 10 [some (.ref l0), some (.int (0 : Int32)), some (.int (0 : Int32))] [] h1 ro ho) : xm_E X P d co_X10_alike 0 [some (.ref l0), none, none] [] h ro ho := by
  refine xm_E_s r_X10_alike_0 rfl rfl ?_
  refine xm_E_s r_X10_alike_1 rfl (xm_T_gr rfl q0 rfl rfl q1) ?_
  refine xm_E_cv [.ref v0] [] r_X10_alike_2 rfl rfl (Nat.le_of_ble_eq_true rfl) (xm_rc q3 (by decide)) rfl q2 ?_
  refine xm_E_s r_X10_alike_3 rfl rfl ?_
  refine xm_E_t q4 ?_
  refine xm_E_s r_X10_alike_6 rfl rfl ?_
  refine xm_E_s (ls1 := [some (.ref l0), some (.int (0 : Int32)), none]) r_X10_alike_7 rfl rfl ?_
  refine xm_E_s r_X10_alike_8 rfl rfl ?_
  refine xm_E_s (ls1 := [some (.ref l0), some (.int (0 : Int32)), some (.int (0 : Int32))]) r_X10_alike_9 rfl rfl ?_
  exact K
theorem p_X10_alike_0_1 {X : xm_X} {P : List xm_M} {d : Nat} {h : xm_H} {l0 : Nat} {v0 : Nat} {h1 : xm_H} {r1 : Int32} (q0 : X.1[l0]? = some (.inr 9)) (q1 : h.2.2 l0 1 = some v0) (q2 : xm_V X P d 36 [.ref v0] h (some (.int r1)) h1) (q3 : X.1[v0]? = some (.inr 8)) (q4 : ¬ (r1 = (0 : Int32))) : xm_E X P d co_X10_alike 0 [some (.ref l0), none, none] [] h (some (.int (-2 : Int32))) h1 := by
  refine xm_E_s r_X10_alike_0 rfl rfl ?_
  refine xm_E_s r_X10_alike_1 rfl (xm_T_gr rfl q0 rfl rfl q1) ?_
  refine xm_E_cv [.ref v0] [] r_X10_alike_2 rfl rfl (Nat.le_of_ble_eq_true rfl) (xm_rc q3 (by decide)) rfl q2 ?_
  refine xm_E_s r_X10_alike_3 rfl rfl ?_
  refine xm_E_f q4 ?_
  refine xm_E_s r_X10_alike_4 rfl rfl ?_
  exact xm_E_iret r_X10_alike_5 rfl rfl
theorem p_X10_alike_10_0 {X : xm_X} {P : List xm_M} {d : Nat} {h : xm_H} {l0 : Nat} {l1 : Int32} {l2 : Int32} {v0 : Nat} {v1 : Nat} (q0 : X.1[l0]? = some (.inr 9)) (q1 : h.2.2 l0 1 = some v0) (q2 : X.1[v0]? = some (.inr 8)) (q3 : h.2.2 v0 0 = some v1) (q4 : X.1[v1]? = some (.inr 0)) (q5 : h.1 v1 6 ≤ l2) : xm_E X P d co_X10_alike 10 [some (.ref l0), some (.int l1), some (.int l2)] [] h (some (.int l1)) h := by
  refine xm_E_s r_X10_alike_10 rfl rfl ?_
  refine xm_E_s r_X10_alike_11 rfl rfl ?_
  refine xm_E_s r_X10_alike_12 rfl (xm_T_gr rfl q0 rfl rfl q1) ?_
  refine xm_E_s r_X10_alike_13 rfl (xm_T_gr rfl q2 rfl rfl q3) ?_
  refine xm_E_s r_X10_alike_14 rfl (xm_T_gi rfl q4 rfl (Or.inl rfl)) ?_
  refine xm_E_s r_X10_alike_15 rfl rfl ?_
  refine xm_E_t q5 ?_
  refine xm_E_s r_X10_alike_35 rfl rfl ?_
  exact xm_E_iret r_X10_alike_36 rfl rfl
theorem p_X10_alike_10_1 {X : xm_X} {P : List xm_M} {d : Nat} {h : xm_H} {l0 : Nat} {l1 : Int32} {l2 : Int32} {v0 : Nat} {v1 : Nat} {h2 : xm_H} {r2 : Int32} {v3 : Nat} {v4 : Nat} {h5 : xm_H} {r5 : Int32} {ro : Option Value} {ho : xm_H} (q0 : X.1[l0]? = some (.inr 9)) (q1 : h.2.2 l0 1 = some v0) (q2 : X.1[v0]? = some (.inr 8)) (q3 : h.2.2 v0 0 = some v1) (q4 : X.1[v1]? = some (.inr 0)) (q5 : ¬ (h.1 v1 6 ≤ l2)) (q6 : xm_V X P d 58 [.ref v1, .int l2] h (some (.int r2)) h2) (q7 : h2.2.2 l0 1 = some v3) (q8 : X.1[v3]? = some (.inr 8)) (q9 : h2.2.2 v3 0 = some v4) (q10 : xm_V X P d 59 [.ref v4, .int l2] h2 (some (.int r5)) h5) (q11 : X.1[v4]? = some (.inr 0)) (q12 : r2 = r5) (K : xm_E X P d co_X10_alike 10 [some (.ref l0), some (.int (l1 ||| ((1 : Int32) <<< (l2 &&& 31)))), some (.int (l2 + (1 : Int32)))] [] h5 ro ho) : xm_E X P d co_X10_alike 10 [some (.ref l0), some (.int l1), some (.int l2)] [] h ro ho := by
  refine xm_E_s r_X10_alike_10 rfl rfl ?_
  refine xm_E_s r_X10_alike_11 rfl rfl ?_
  refine xm_E_s r_X10_alike_12 rfl (xm_T_gr rfl q0 rfl rfl q1) ?_
  refine xm_E_s r_X10_alike_13 rfl (xm_T_gr rfl q2 rfl rfl q3) ?_
  refine xm_E_s r_X10_alike_14 rfl (xm_T_gi rfl q4 rfl (Or.inl rfl)) ?_
  refine xm_E_s r_X10_alike_15 rfl rfl ?_
  refine xm_E_f q5 ?_
  refine xm_E_s r_X10_alike_16 rfl rfl ?_
  refine xm_E_s r_X10_alike_17 rfl (xm_T_gr rfl q0 rfl rfl q1) ?_
  refine xm_E_s r_X10_alike_18 rfl (xm_T_gr rfl q2 rfl rfl q3) ?_
  refine xm_E_s r_X10_alike_19 rfl rfl ?_
  refine xm_E_cv [.ref v1, .int l2] [] r_X10_alike_20 rfl rfl (Nat.le_of_ble_eq_true rfl) (xm_rc q4 (by decide)) rfl q6 ?_
  refine xm_E_s r_X10_alike_21 rfl rfl ?_
  refine xm_E_s r_X10_alike_22 rfl (xm_T_gr rfl q0 rfl rfl q7) ?_
  refine xm_E_s r_X10_alike_23 rfl (xm_T_gr rfl q8 rfl rfl q9) ?_
  refine xm_E_s r_X10_alike_24 rfl rfl ?_
  refine xm_E_cv [.ref v4, .int l2] [.int r2] r_X10_alike_25 rfl rfl (Nat.le_of_ble_eq_true rfl) (xm_rc q11 (by decide)) rfl q10 ?_
  refine xm_E_s r_X10_alike_26 rfl rfl ?_
  refine xm_E_t q12 ?_
  refine xm_E_s r_X10_alike_27 rfl rfl ?_
  refine xm_E_s r_X10_alike_28 rfl rfl ?_
  refine xm_E_s r_X10_alike_29 rfl rfl ?_
  refine xm_E_s r_X10_alike_30 rfl rfl ?_
  refine xm_E_s r_X10_alike_31 rfl rfl ?_
  refine xm_E_s (ls1 := [some (.ref l0), some (.int (l1 ||| ((1 : Int32) <<< (l2 &&& 31)))), some (.int l2)]) r_X10_alike_32 rfl rfl ?_
  refine xm_E_s (ls1 := [some (.ref l0), some (.int (l1 ||| ((1 : Int32) <<< (l2 &&& 31)))), some (.int (l2 + (1 : Int32)))]) r_X10_alike_33 rfl rfl ?_
  refine xm_E_s r_X10_alike_34 rfl rfl ?_
  exact K
theorem p_X10_alike_10_2 {X : xm_X} {P : List xm_M} {d : Nat} {h : xm_H} {l0 : Nat} {l1 : Int32} {l2 : Int32} {v0 : Nat} {v1 : Nat} {h2 : xm_H} {r2 : Int32} {v3 : Nat} {v4 : Nat} {h5 : xm_H} {r5 : Int32} {ro : Option Value} {ho : xm_H} (q0 : X.1[l0]? = some (.inr 9)) (q1 : h.2.2 l0 1 = some v0) (q2 : X.1[v0]? = some (.inr 8)) (q3 : h.2.2 v0 0 = some v1) (q4 : X.1[v1]? = some (.inr 0)) (q5 : ¬ (h.1 v1 6 ≤ l2)) (q6 : xm_V X P d 58 [.ref v1, .int l2] h (some (.int r2)) h2) (q7 : h2.2.2 l0 1 = some v3) (q8 : X.1[v3]? = some (.inr 8)) (q9 : h2.2.2 v3 0 = some v4) (q10 : xm_V X P d 59 [.ref v4, .int l2] h2 (some (.int r5)) h5) (q11 : X.1[v4]? = some (.inr 0)) (q12 : ¬ (r2 = r5)) (K : xm_E X P d co_X10_alike 10 [some (.ref l0), some (.int l1), some (.int (l2 + (1 : Int32)))] [] h5 ro ho) : xm_E X P d co_X10_alike 10 [some (.ref l0), some (.int l1), some (.int l2)] [] h ro ho := by
  refine xm_E_s r_X10_alike_10 rfl rfl ?_
  refine xm_E_s r_X10_alike_11 rfl rfl ?_
  refine xm_E_s r_X10_alike_12 rfl (xm_T_gr rfl q0 rfl rfl q1) ?_
  refine xm_E_s r_X10_alike_13 rfl (xm_T_gr rfl q2 rfl rfl q3) ?_
  refine xm_E_s r_X10_alike_14 rfl (xm_T_gi rfl q4 rfl (Or.inl rfl)) ?_
  refine xm_E_s r_X10_alike_15 rfl rfl ?_
  refine xm_E_f q5 ?_
  refine xm_E_s r_X10_alike_16 rfl rfl ?_
  refine xm_E_s r_X10_alike_17 rfl (xm_T_gr rfl q0 rfl rfl q1) ?_
  refine xm_E_s r_X10_alike_18 rfl (xm_T_gr rfl q2 rfl rfl q3) ?_
  refine xm_E_s r_X10_alike_19 rfl rfl ?_
  refine xm_E_cv [.ref v1, .int l2] [] r_X10_alike_20 rfl rfl (Nat.le_of_ble_eq_true rfl) (xm_rc q4 (by decide)) rfl q6 ?_
  refine xm_E_s r_X10_alike_21 rfl rfl ?_
  refine xm_E_s r_X10_alike_22 rfl (xm_T_gr rfl q0 rfl rfl q7) ?_
  refine xm_E_s r_X10_alike_23 rfl (xm_T_gr rfl q8 rfl rfl q9) ?_
  refine xm_E_s r_X10_alike_24 rfl rfl ?_
  refine xm_E_cv [.ref v4, .int l2] [.int r2] r_X10_alike_25 rfl rfl (Nat.le_of_ble_eq_true rfl) (xm_rc q11 (by decide)) rfl q10 ?_
  refine xm_E_s r_X10_alike_26 rfl rfl ?_
  refine xm_E_f q12 ?_
  refine xm_E_s (ls1 := [some (.ref l0), some (.int l1), some (.int (l2 + (1 : Int32)))]) r_X10_alike_33 rfl rfl ?_
  refine xm_E_s r_X10_alike_34 rfl rfl ?_
  exact K
theorem r_X10_doubled_0 : co_X10_doubled[0]? = some ((0, .aload_n 0, 0, 0, 0, 0, 0, 0, []) : xm_I) := rfl
theorem r_X10_doubled_1 : co_X10_doubled[1]? = some ((1, .getfield 19, 482, 9, 1, 2, 0, 0, []) : xm_I) := rfl
theorem r_X10_doubled_2 : co_X10_doubled[2]? = some ((4, .invokevirtual 113, 696, 36, 1, 8, 0, 0, []) : xm_I) := rfl
theorem r_X10_doubled_3 : co_X10_doubled[3]? = some ((7, .ifCond .eq 6, 0, 0, 6, 0, 0, 0, []) : xm_I) := rfl
theorem r_X10_doubled_4 : co_X10_doubled[4]? = some ((10, .bipush (-2), 0, 0, 0, 0, (-2), 0, []) : xm_I) := rfl
theorem r_X10_doubled_5 : co_X10_doubled[5]? = some ((12, .ireturn, 0, 0, 0, 0, 0, 0, []) : xm_I) := rfl
theorem r_X10_doubled_6 : co_X10_doubled[6]? = some ((13, .iconst 0, 0, 0, 0, 0, 0, 0, []) : xm_I) := rfl
theorem r_X10_doubled_7 : co_X10_doubled[7]? = some ((14, .istore_n 1, 0, 0, 0, 0, 0, 0, []) : xm_I) := rfl
theorem r_X10_doubled_8 : co_X10_doubled[8]? = some ((15, .iconst 0, 0, 0, 0, 0, 0, 0, []) : xm_I) := rfl
theorem r_X10_doubled_9 : co_X10_doubled[9]? = some ((16, .istore_n 2, 0, 0, 0, 0, 0, 0, []) : xm_I) := rfl
theorem r_X10_doubled_10 : co_X10_doubled[10]? = some ((17, .iload_n 2, 0, 0, 0, 0, 0, 0, []) : xm_I) := rfl
theorem r_X10_doubled_11 : co_X10_doubled[11]? = some ((18, .aload_n 0, 0, 0, 0, 0, 0, 0, []) : xm_I) := rfl
theorem r_X10_doubled_12 : co_X10_doubled[12]? = some ((19, .getfield 19, 482, 9, 1, 2, 0, 0, []) : xm_I) := rfl
theorem r_X10_doubled_13 : co_X10_doubled[13]? = some ((22, .getfield 103, 305, 8, 0, 2, 0, 0, []) : xm_I) := rfl
theorem r_X10_doubled_14 : co_X10_doubled[14]? = some ((25, .getfield 255, 226, 0, 6, 0, 0, 0, []) : xm_I) := rfl
theorem r_X10_doubled_15 : co_X10_doubled[15]? = some ((28, .if_icmp .ge 29, 0, 0, 30, 0, 0, 0, []) : xm_I) := rfl
theorem r_X10_doubled_16 : co_X10_doubled[16]? = some ((31, .aload_n 0, 0, 0, 0, 0, 0, 0, []) : xm_I) := rfl
theorem r_X10_doubled_17 : co_X10_doubled[17]? = some ((32, .getfield 19, 482, 9, 1, 2, 0, 0, []) : xm_I) := rfl
theorem r_X10_doubled_18 : co_X10_doubled[18]? = some ((35, .getfield 103, 305, 8, 0, 2, 0, 0, []) : xm_I) := rfl
theorem r_X10_doubled_19 : co_X10_doubled[19]? = some ((38, .iload_n 2, 0, 0, 0, 0, 0, 0, []) : xm_I) := rfl
theorem r_X10_doubled_20 : co_X10_doubled[20]? = some ((39, .invokevirtual 279, 1117, 132, 2, 0, 0, 0, []) : xm_I) := rfl
theorem r_X10_doubled_21 : co_X10_doubled[21]? = some ((42, .ifCond .eq 9, 0, 0, 28, 0, 0, 0, []) : xm_I) := rfl
theorem r_X10_doubled_22 : co_X10_doubled[22]? = some ((45, .iload_n 1, 0, 0, 0, 0, 0, 0, []) : xm_I) := rfl
theorem r_X10_doubled_23 : co_X10_doubled[23]? = some ((46, .iconst 1, 0, 0, 0, 0, 1, 0, []) : xm_I) := rfl
theorem r_X10_doubled_24 : co_X10_doubled[24]? = some ((47, .iload_n 2, 0, 0, 0, 0, 0, 0, []) : xm_I) := rfl
theorem r_X10_doubled_25 : co_X10_doubled[25]? = some ((48, .ishl, 0, 0, 0, 0, 0, 0, []) : xm_I) := rfl
theorem r_X10_doubled_26 : co_X10_doubled[26]? = some ((49, .ior, 0, 0, 0, 0, 0, 0, []) : xm_I) := rfl
theorem r_X10_doubled_27 : co_X10_doubled[27]? = some ((50, .istore_n 1, 0, 0, 0, 0, 0, 0, []) : xm_I) := rfl
theorem r_X10_doubled_28 : co_X10_doubled[28]? = some ((51, .iinc 2 1, 0, 0, 0, 0, 1, 0, []) : xm_I) := rfl
theorem r_X10_doubled_29 : co_X10_doubled[29]? = some ((54, .goto (-37), 0, 0, 10, 0, 0, 0, []) : xm_I) := rfl
theorem r_X10_doubled_30 : co_X10_doubled[30]? = some ((57, .iload_n 1, 0, 0, 0, 0, 0, 0, []) : xm_I) := rfl
theorem r_X10_doubled_31 : co_X10_doubled[31]? = some ((58, .ireturn, 0, 0, 0, 0, 0, 0, []) : xm_I) := rfl
theorem p_X10_doubled_0_0 {X : xm_X} {P : List xm_M} {d : Nat} {h : xm_H} {l0 : Nat} {v0 : Nat} {h1 : xm_H} {r1 : Int32} {ro : Option Value} {ho : xm_H} (q0 : X.1[l0]? = some (.inr 9)) (q1 : h.2.2 l0 1 = some v0) (q2 : xm_V X P d 36 [.ref v0] h (some (.int r1)) h1) (q3 : X.1[v0]? = some (.inr 8)) (q4 : r1 = (0 : Int32)) (K : xm_E X P d co_X10_doubled 10 [some (.ref l0), some (.int (0 : Int32)), some (.int (0 : Int32))] [] h1 ro ho) : xm_E X P d co_X10_doubled 0 [some (.ref l0), none, none] [] h ro ho := by
  refine xm_E_s r_X10_doubled_0 rfl rfl ?_
  refine xm_E_s r_X10_doubled_1 rfl (xm_T_gr rfl q0 rfl rfl q1) ?_
  refine xm_E_cv [.ref v0] [] r_X10_doubled_2 rfl rfl (Nat.le_of_ble_eq_true rfl) (xm_rc q3 (by decide)) rfl q2 ?_
  refine xm_E_s r_X10_doubled_3 rfl rfl ?_
  refine xm_E_t q4 ?_
  refine xm_E_s r_X10_doubled_6 rfl rfl ?_
  refine xm_E_s (ls1 := [some (.ref l0), some (.int (0 : Int32)), none]) r_X10_doubled_7 rfl rfl ?_
  refine xm_E_s r_X10_doubled_8 rfl rfl ?_
  refine xm_E_s (ls1 := [some (.ref l0), some (.int (0 : Int32)), some (.int (0 : Int32))]) r_X10_doubled_9 rfl rfl ?_
  exact K
theorem p_X10_doubled_0_1 {X : xm_X} {P : List xm_M} {d : Nat} {h : xm_H} {l0 : Nat} {v0 : Nat} {h1 : xm_H} {r1 : Int32} (q0 : X.1[l0]? = some (.inr 9)) (q1 : h.2.2 l0 1 = some v0) (q2 : xm_V X P d 36 [.ref v0] h (some (.int r1)) h1) (q3 : X.1[v0]? = some (.inr 8)) (q4 : ¬ (r1 = (0 : Int32))) : xm_E X P d co_X10_doubled 0 [some (.ref l0), none, none] [] h (some (.int (-2 : Int32))) h1 := by
  refine xm_E_s r_X10_doubled_0 rfl rfl ?_
  refine xm_E_s r_X10_doubled_1 rfl (xm_T_gr rfl q0 rfl rfl q1) ?_
  refine xm_E_cv [.ref v0] [] r_X10_doubled_2 rfl rfl (Nat.le_of_ble_eq_true rfl) (xm_rc q3 (by decide)) rfl q2 ?_
  refine xm_E_s r_X10_doubled_3 rfl rfl ?_
  refine xm_E_f q4 ?_
  refine xm_E_s r_X10_doubled_4 rfl rfl ?_
  exact xm_E_iret r_X10_doubled_5 rfl rfl
theorem p_X10_doubled_10_0 {X : xm_X} {P : List xm_M} {d : Nat} {h : xm_H} {l0 : Nat} {l1 : Int32} {l2 : Int32} {v0 : Nat} {v1 : Nat} (q0 : X.1[l0]? = some (.inr 9)) (q1 : h.2.2 l0 1 = some v0) (q2 : X.1[v0]? = some (.inr 8)) (q3 : h.2.2 v0 0 = some v1) (q4 : X.1[v1]? = some (.inr 0)) (q5 : h.1 v1 6 ≤ l2) : xm_E X P d co_X10_doubled 10 [some (.ref l0), some (.int l1), some (.int l2)] [] h (some (.int l1)) h := by
  refine xm_E_s r_X10_doubled_10 rfl rfl ?_
  refine xm_E_s r_X10_doubled_11 rfl rfl ?_
  refine xm_E_s r_X10_doubled_12 rfl (xm_T_gr rfl q0 rfl rfl q1) ?_
  refine xm_E_s r_X10_doubled_13 rfl (xm_T_gr rfl q2 rfl rfl q3) ?_
  refine xm_E_s r_X10_doubled_14 rfl (xm_T_gi rfl q4 rfl (Or.inl rfl)) ?_
  refine xm_E_s r_X10_doubled_15 rfl rfl ?_
  refine xm_E_t q5 ?_
  refine xm_E_s r_X10_doubled_30 rfl rfl ?_
  exact xm_E_iret r_X10_doubled_31 rfl rfl
theorem p_X10_doubled_10_1 {X : xm_X} {P : List xm_M} {d : Nat} {h : xm_H} {l0 : Nat} {l1 : Int32} {l2 : Int32} {v0 : Nat} {v1 : Nat} {h2 : xm_H} {r2 : Int32} {ro : Option Value} {ho : xm_H} (q0 : X.1[l0]? = some (.inr 9)) (q1 : h.2.2 l0 1 = some v0) (q2 : X.1[v0]? = some (.inr 8)) (q3 : h.2.2 v0 0 = some v1) (q4 : X.1[v1]? = some (.inr 0)) (q5 : ¬ (h.1 v1 6 ≤ l2)) (q6 : xm_V X P d 132 [.ref v1, .int l2] h (some (.int r2)) h2) (q7 : r2 = (0 : Int32)) (K : xm_E X P d co_X10_doubled 10 [some (.ref l0), some (.int l1), some (.int (l2 + (1 : Int32)))] [] h2 ro ho) : xm_E X P d co_X10_doubled 10 [some (.ref l0), some (.int l1), some (.int l2)] [] h ro ho := by
  refine xm_E_s r_X10_doubled_10 rfl rfl ?_
  refine xm_E_s r_X10_doubled_11 rfl rfl ?_
  refine xm_E_s r_X10_doubled_12 rfl (xm_T_gr rfl q0 rfl rfl q1) ?_
  refine xm_E_s r_X10_doubled_13 rfl (xm_T_gr rfl q2 rfl rfl q3) ?_
  refine xm_E_s r_X10_doubled_14 rfl (xm_T_gi rfl q4 rfl (Or.inl rfl)) ?_
  refine xm_E_s r_X10_doubled_15 rfl rfl ?_
  refine xm_E_f q5 ?_
  refine xm_E_s r_X10_doubled_16 rfl rfl ?_
  refine xm_E_s r_X10_doubled_17 rfl (xm_T_gr rfl q0 rfl rfl q1) ?_
  refine xm_E_s r_X10_doubled_18 rfl (xm_T_gr rfl q2 rfl rfl q3) ?_
  refine xm_E_s r_X10_doubled_19 rfl rfl ?_
  refine xm_E_cv [.ref v1, .int l2] [] r_X10_doubled_20 rfl rfl (Nat.le_of_ble_eq_true rfl) (xm_rc q4 (by decide)) rfl q6 ?_
  refine xm_E_s r_X10_doubled_21 rfl rfl ?_
  refine xm_E_t q7 ?_
  refine xm_E_s (ls1 := [some (.ref l0), some (.int l1), some (.int (l2 + (1 : Int32)))]) r_X10_doubled_28 rfl rfl ?_
  refine xm_E_s r_X10_doubled_29 rfl rfl ?_
  exact K
theorem p_X10_doubled_10_2 {X : xm_X} {P : List xm_M} {d : Nat} {h : xm_H} {l0 : Nat} {l1 : Int32} {l2 : Int32} {v0 : Nat} {v1 : Nat} {h2 : xm_H} {r2 : Int32} {ro : Option Value} {ho : xm_H} (q0 : X.1[l0]? = some (.inr 9)) (q1 : h.2.2 l0 1 = some v0) (q2 : X.1[v0]? = some (.inr 8)) (q3 : h.2.2 v0 0 = some v1) (q4 : X.1[v1]? = some (.inr 0)) (q5 : ¬ (h.1 v1 6 ≤ l2)) (q6 : xm_V X P d 132 [.ref v1, .int l2] h (some (.int r2)) h2) (q7 : ¬ (r2 = (0 : Int32))) (K : xm_E X P d co_X10_doubled 10 [some (.ref l0), some (.int (l1 ||| ((1 : Int32) <<< (l2 &&& 31)))), some (.int (l2 + (1 : Int32)))] [] h2 ro ho) : xm_E X P d co_X10_doubled 10 [some (.ref l0), some (.int l1), some (.int l2)] [] h ro ho := by
  refine xm_E_s r_X10_doubled_10 rfl rfl ?_
  refine xm_E_s r_X10_doubled_11 rfl rfl ?_
  refine xm_E_s r_X10_doubled_12 rfl (xm_T_gr rfl q0 rfl rfl q1) ?_
  refine xm_E_s r_X10_doubled_13 rfl (xm_T_gr rfl q2 rfl rfl q3) ?_
  refine xm_E_s r_X10_doubled_14 rfl (xm_T_gi rfl q4 rfl (Or.inl rfl)) ?_
  refine xm_E_s r_X10_doubled_15 rfl rfl ?_
  refine xm_E_f q5 ?_
  refine xm_E_s r_X10_doubled_16 rfl rfl ?_
  refine xm_E_s r_X10_doubled_17 rfl (xm_T_gr rfl q0 rfl rfl q1) ?_
  refine xm_E_s r_X10_doubled_18 rfl (xm_T_gr rfl q2 rfl rfl q3) ?_
  refine xm_E_s r_X10_doubled_19 rfl rfl ?_
  refine xm_E_cv [.ref v1, .int l2] [] r_X10_doubled_20 rfl rfl (Nat.le_of_ble_eq_true rfl) (xm_rc q4 (by decide)) rfl q6 ?_
  refine xm_E_s r_X10_doubled_21 rfl rfl ?_
  refine xm_E_f q7 ?_
  refine xm_E_s r_X10_doubled_22 rfl rfl ?_
  refine xm_E_s r_X10_doubled_23 rfl rfl ?_
  refine xm_E_s r_X10_doubled_24 rfl rfl ?_
  refine xm_E_s r_X10_doubled_25 rfl rfl ?_
  refine xm_E_s r_X10_doubled_26 rfl rfl ?_
  refine xm_E_s (ls1 := [some (.ref l0), some (.int (l1 ||| ((1 : Int32) <<< (l2 &&& 31)))), some (.int l2)]) r_X10_doubled_27 rfl rfl ?_
  refine xm_E_s (ls1 := [some (.ref l0), some (.int (l1 ||| ((1 : Int32) <<< (l2 &&& 31)))), some (.int (l2 + (1 : Int32)))]) r_X10_doubled_28 rfl rfl ?_
  refine xm_E_s r_X10_doubled_29 rfl rfl ?_
  exact K
theorem r_X10_right_0 : co_X10_right[0]? = some ((0, .aload_n 0, 0, 0, 0, 0, 0, 0, []) : xm_I) := rfl
theorem r_X10_right_1 : co_X10_right[1]? = some ((1, .iload_n 1, 0, 0, 0, 0, 0, 0, []) : xm_I) := rfl
theorem r_X10_right_2 : co_X10_right[2]? = some ((2, .invokevirtual 146, 781, 56, 2, 9, 0, 0, []) : xm_I) := rfl
theorem r_X10_right_3 : co_X10_right[3]? = some ((5, .ifCond .eq 10, 0, 0, 7, 0, 0, 0, []) : xm_I) := rfl
theorem r_X10_right_4 : co_X10_right[4]? = some ((8, .iload_n 2, 0, 0, 0, 0, 0, 0, []) : xm_I) := rfl
theorem r_X10_right_5 : co_X10_right[5]? = some ((9, .invokestatic 261, 1094, 127, 1, 0, 0, 0, []) : xm_I) := rfl
theorem r_X10_right_6 : co_X10_right[6]? = some ((12, .ifCond .ne 6, 0, 0, 9, 0, 0, 0, []) : xm_I) := rfl
theorem r_X10_right_7 : co_X10_right[7]? = some ((15, .bipush (-2), 0, 0, 0, 0, (-2), 0, []) : xm_I) := rfl
theorem r_X10_right_8 : co_X10_right[8]? = some ((17, .ireturn, 0, 0, 0, 0, 0, 0, []) : xm_I) := rfl
theorem r_X10_right_9 : co_X10_right[9]? = some ((18, .aload_n 0, 0, 0, 0, 0, 0, 0, []) : xm_I) := rfl
theorem r_X10_right_10 : co_X10_right[10]? = some ((19, .getfield 19, 482, 9, 1, 2, 0, 0, []) : xm_I) := rfl
theorem r_X10_right_11 : co_X10_right[11]? = some ((22, .getfield 103, 305, 8, 0, 2, 0, 0, []) : xm_I) := rfl
theorem r_X10_right_12 : co_X10_right[12]? = some ((25, .iload_n 1, 0, 0, 0, 0, 0, 0, []) : xm_I) := rfl
theorem r_X10_right_13 : co_X10_right[13]? = some ((26, .invokevirtual 282, 1125, 134, 2, 0, 0, 0, []) : xm_I) := rfl
theorem r_X10_right_14 : co_X10_right[14]? = some ((29, .i2l, 0, 0, 0, 0, 0, 0, []) : xm_I) := rfl
theorem r_X10_right_15 : co_X10_right[15]? = some ((30, .ldc2_w 285, 1132, 0, 0, 0, 0, 10000, []) : xm_I) := rfl
theorem r_X10_right_16 : co_X10_right[16]? = some ((33, .iload_n 2, 0, 0, 0, 0, 0, 0, []) : xm_I) := rfl
theorem r_X10_right_17 : co_X10_right[17]? = some ((34, .invokestatic 287, 1133, 136, 3, 0, 0, 0, []) : xm_I) := rfl
theorem r_X10_right_18 : co_X10_right[18]? = some ((37, .l2i, 0, 0, 0, 0, 0, 0, []) : xm_I) := rfl
theorem r_X10_right_19 : co_X10_right[19]? = some ((38, .ireturn, 0, 0, 0, 0, 0, 0, []) : xm_I) := rfl
theorem p_X10_right_0_0 {X : xm_X} {P : List xm_M} {d : Nat} {h : xm_H} {l0 : Nat} {l1 : Int32} {l2 : Int32} {h0 : xm_H} {r0 : Int32} (q0 : xm_V X P d 56 [.ref l0, .int l1] h (some (.int r0)) h0) (q1 : X.1[l0]? = some (.inr 9)) (q2 : r0 = (0 : Int32)) : xm_E X P d co_X10_right 0 [some (.ref l0), some (.int l1), some (.int l2)] [] h (some (.int (-2 : Int32))) h0 := by
  refine xm_E_s r_X10_right_0 rfl rfl ?_
  refine xm_E_s r_X10_right_1 rfl rfl ?_
  refine xm_E_cv [.ref l0, .int l1] [] r_X10_right_2 rfl rfl (Nat.le_of_ble_eq_true rfl) (xm_rc q1 (by decide)) rfl q0 ?_
  refine xm_E_s r_X10_right_3 rfl rfl ?_
  refine xm_E_t q2 ?_
  refine xm_E_s r_X10_right_7 rfl rfl ?_
  exact xm_E_iret r_X10_right_8 rfl rfl
theorem p_X10_right_0_1 {X : xm_X} {P : List xm_M} {d : Nat} {h : xm_H} {l0 : Nat} {l1 : Int32} {l2 : Int32} {h0 : xm_H} {r0 : Int32} {h1 : xm_H} {r1 : Int32} (q0 : xm_V X P d 56 [.ref l0, .int l1] h (some (.int r0)) h0) (q1 : X.1[l0]? = some (.inr 9)) (q2 : ¬ (r0 = (0 : Int32))) (q3 : xm_V X P d 127 [.int l2] h0 (some (.int r1)) h1) (q4 : r1 = (0 : Int32)) : xm_E X P d co_X10_right 0 [some (.ref l0), some (.int l1), some (.int l2)] [] h (some (.int (-2 : Int32))) h1 := by
  refine xm_E_s r_X10_right_0 rfl rfl ?_
  refine xm_E_s r_X10_right_1 rfl rfl ?_
  refine xm_E_cv [.ref l0, .int l1] [] r_X10_right_2 rfl rfl (Nat.le_of_ble_eq_true rfl) (xm_rc q1 (by decide)) rfl q0 ?_
  refine xm_E_s r_X10_right_3 rfl rfl ?_
  refine xm_E_f q2 ?_
  refine xm_E_s r_X10_right_4 rfl rfl ?_
  refine xm_E_cs [.int l2] [] r_X10_right_5 rfl rfl rfl (Nat.le_of_ble_eq_true rfl) rfl q3 ?_
  refine xm_E_s r_X10_right_6 rfl rfl ?_
  refine xm_E_t q4 ?_
  refine xm_E_s r_X10_right_7 rfl rfl ?_
  exact xm_E_iret r_X10_right_8 rfl rfl
theorem p_X10_right_0_2 {X : xm_X} {P : List xm_M} {d : Nat} {h : xm_H} {l0 : Nat} {l1 : Int32} {l2 : Int32} {h0 : xm_H} {r0 : Int32} {h1 : xm_H} {r1 : Int32} {v2 : Nat} {v3 : Nat} {h4 : xm_H} {r4 : Int32} {h5 : xm_H} {r5 : Int64} (q0 : xm_V X P d 56 [.ref l0, .int l1] h (some (.int r0)) h0) (q1 : X.1[l0]? = some (.inr 9)) (q2 : ¬ (r0 = (0 : Int32))) (q3 : xm_V X P d 127 [.int l2] h0 (some (.int r1)) h1) (q4 : ¬ (r1 = (0 : Int32))) (q5 : h1.2.2 l0 1 = some v2) (q6 : X.1[v2]? = some (.inr 8)) (q7 : h1.2.2 v2 0 = some v3) (q8 : xm_V X P d 134 [.ref v3, .int l1] h1 (some (.int r4)) h4) (q9 : X.1[v3]? = some (.inr 0)) (q10 : xm_V X P d 136 [.long r4.toInt64, .long (10000 : Int64), .int l2] h4 (some (.long r5)) h5) : xm_E X P d co_X10_right 0 [some (.ref l0), some (.int l1), some (.int l2)] [] h (some (.int r5.toInt32)) h5 := by
  refine xm_E_s r_X10_right_0 rfl rfl ?_
  refine xm_E_s r_X10_right_1 rfl rfl ?_
  refine xm_E_cv [.ref l0, .int l1] [] r_X10_right_2 rfl rfl (Nat.le_of_ble_eq_true rfl) (xm_rc q1 (by decide)) rfl q0 ?_
  refine xm_E_s r_X10_right_3 rfl rfl ?_
  refine xm_E_f q2 ?_
  refine xm_E_s r_X10_right_4 rfl rfl ?_
  refine xm_E_cs [.int l2] [] r_X10_right_5 rfl rfl rfl (Nat.le_of_ble_eq_true rfl) rfl q3 ?_
  refine xm_E_s r_X10_right_6 rfl rfl ?_
  refine xm_E_f q4 ?_
  refine xm_E_s r_X10_right_9 rfl rfl ?_
  refine xm_E_s r_X10_right_10 rfl (xm_T_gr rfl q1 rfl rfl q5) ?_
  refine xm_E_s r_X10_right_11 rfl (xm_T_gr rfl q6 rfl rfl q7) ?_
  refine xm_E_s r_X10_right_12 rfl rfl ?_
  refine xm_E_cv [.ref v3, .int l1] [] r_X10_right_13 rfl rfl (Nat.le_of_ble_eq_true rfl) (xm_rc q9 (by decide)) rfl q8 ?_
  refine xm_E_s r_X10_right_14 rfl rfl ?_
  refine xm_E_s r_X10_right_15 rfl rfl ?_
  refine xm_E_s r_X10_right_16 rfl rfl ?_
  refine xm_E_cs [.long r4.toInt64, .long (10000 : Int64), .int l2] [] r_X10_right_17 rfl rfl rfl (Nat.le_of_ble_eq_true rfl) rfl q10 ?_
  refine xm_E_s r_X10_right_18 rfl rfl ?_
  exact xm_E_iret r_X10_right_19 rfl rfl
theorem r_X10_partOf_0 : co_X10_partOf[0]? = some ((0, .lload_n 0, 0, 0, 0, 0, 0, 0, []) : xm_I) := rfl
theorem r_X10_partOf_1 : co_X10_partOf[1]? = some ((1, .lload_n 2, 0, 0, 0, 0, 0, 0, []) : xm_I) := rfl
theorem r_X10_partOf_2 : co_X10_partOf[2]? = some ((2, .invokestatic 448, 1136, 137, 2, 0, 0, 0, []) : xm_I) := rfl
theorem r_X10_partOf_3 : co_X10_partOf[3]? = some ((5, .lstore 5, 0, 0, 0, 0, 0, 0, []) : xm_I) := rfl
theorem r_X10_partOf_4 : co_X10_partOf[4]? = some ((7, .lload 5, 0, 0, 0, 0, 0, 0, []) : xm_I) := rfl
theorem r_X10_partOf_5 : co_X10_partOf[5]? = some ((9, .lconst 0, 0, 0, 0, 0, 0, 0, []) : xm_I) := rfl
theorem r_X10_partOf_6 : co_X10_partOf[6]? = some ((10, .lcmp, 0, 0, 0, 0, 0, 0, []) : xm_I) := rfl
theorem r_X10_partOf_7 : co_X10_partOf[7]? = some ((11, .ifCond .gt 5, 0, 0, 10, 0, 0, 0, []) : xm_I) := rfl
theorem r_X10_partOf_8 : co_X10_partOf[8]? = some ((14, .lconst 0, 0, 0, 0, 0, 0, 0, []) : xm_I) := rfl
theorem r_X10_partOf_9 : co_X10_partOf[9]? = some ((15, .lreturn, 0, 0, 0, 0, 0, 0, []) : xm_I) := rfl
theorem r_X10_partOf_10 : co_X10_partOf[10]? = some ((16, .iload 4, 0, 0, 0, 0, 0, 0, []) : xm_I) := rfl
theorem r_X10_partOf_11 : co_X10_partOf[11]? = some ((18, .ifCond .ne 10, 0, 0, 16, 0, 0, 0, []) : xm_I) := rfl
theorem r_X10_partOf_12 : co_X10_partOf[12]? = some ((21, .lload_n 0, 0, 0, 0, 0, 0, 0, []) : xm_I) := rfl
theorem r_X10_partOf_13 : co_X10_partOf[13]? = some ((22, .lload 5, 0, 0, 0, 0, 0, 0, []) : xm_I) := rfl
theorem r_X10_partOf_14 : co_X10_partOf[14]? = some ((24, .ldiv, 0, 0, 0, 0, 0, 0, []) : xm_I) := rfl
theorem r_X10_partOf_15 : co_X10_partOf[15]? = some ((25, .goto 7, 0, 0, 19, 0, 0, 0, []) : xm_I) := rfl
theorem r_X10_partOf_16 : co_X10_partOf[16]? = some ((28, .lload_n 2, 0, 0, 0, 0, 0, 0, []) : xm_I) := rfl
theorem r_X10_partOf_17 : co_X10_partOf[17]? = some ((29, .lload 5, 0, 0, 0, 0, 0, 0, []) : xm_I) := rfl
theorem r_X10_partOf_18 : co_X10_partOf[18]? = some ((31, .ldiv, 0, 0, 0, 0, 0, 0, []) : xm_I) := rfl
theorem r_X10_partOf_19 : co_X10_partOf[19]? = some ((32, .lreturn, 0, 0, 0, 0, 0, 0, []) : xm_I) := rfl
theorem p_X10_partOf_0_0 {X : xm_X} {P : List xm_M} {d : Nat} {h : xm_H} {l0 : Int64} {l2 : Int64} {l4 : Int32} {h0 : xm_H} {r0 : Int64} (q0 : xm_V X P d 137 [.long l0, .long l2] h (some (.long r0)) h0) (q1 : (0 : Int32) < lg_cmp r0 (0 : Int64)) (q2 : l4 = (0 : Int32)) (q3 : ¬ r0 = 0) : xm_E X P d co_X10_partOf 0 [some (.long l0), none, some (.long l2), none, some (.int l4), none, none] [] h (some (.long (l0 / r0))) h0 := by
  refine xm_E_s r_X10_partOf_0 rfl rfl ?_
  refine xm_E_s r_X10_partOf_1 rfl rfl ?_
  refine xm_E_cs [.long l0, .long l2] [] r_X10_partOf_2 rfl rfl rfl (Nat.le_of_ble_eq_true rfl) rfl q0 ?_
  refine xm_E_s (ls1 := [some (.long l0), none, some (.long l2), none, some (.int l4), some (.long r0), none]) r_X10_partOf_3 rfl rfl ?_
  refine xm_E_s r_X10_partOf_4 rfl rfl ?_
  refine xm_E_s r_X10_partOf_5 rfl rfl ?_
  refine xm_E_s r_X10_partOf_6 rfl rfl ?_
  refine xm_E_s r_X10_partOf_7 rfl rfl ?_
  refine xm_E_t q1 ?_
  refine xm_E_s r_X10_partOf_10 rfl rfl ?_
  refine xm_E_s r_X10_partOf_11 rfl rfl ?_
  refine xm_E_t q2 ?_
  refine xm_E_s r_X10_partOf_12 rfl rfl ?_
  refine xm_E_s r_X10_partOf_13 rfl rfl ?_
  refine xm_E_s r_X10_partOf_14 rfl (xm_T_ldiv rfl q3) ?_
  refine xm_E_s r_X10_partOf_15 rfl rfl ?_
  exact xm_E_lret r_X10_partOf_19 rfl
theorem p_X10_partOf_0_1 {X : xm_X} {P : List xm_M} {d : Nat} {h : xm_H} {l0 : Int64} {l2 : Int64} {l4 : Int32} {h0 : xm_H} {r0 : Int64} (q0 : xm_V X P d 137 [.long l0, .long l2] h (some (.long r0)) h0) (q1 : (0 : Int32) < lg_cmp r0 (0 : Int64)) (q2 : ¬ (l4 = (0 : Int32))) (q3 : ¬ r0 = 0) : xm_E X P d co_X10_partOf 0 [some (.long l0), none, some (.long l2), none, some (.int l4), none, none] [] h (some (.long (l2 / r0))) h0 := by
  refine xm_E_s r_X10_partOf_0 rfl rfl ?_
  refine xm_E_s r_X10_partOf_1 rfl rfl ?_
  refine xm_E_cs [.long l0, .long l2] [] r_X10_partOf_2 rfl rfl rfl (Nat.le_of_ble_eq_true rfl) rfl q0 ?_
  refine xm_E_s (ls1 := [some (.long l0), none, some (.long l2), none, some (.int l4), some (.long r0), none]) r_X10_partOf_3 rfl rfl ?_
  refine xm_E_s r_X10_partOf_4 rfl rfl ?_
  refine xm_E_s r_X10_partOf_5 rfl rfl ?_
  refine xm_E_s r_X10_partOf_6 rfl rfl ?_
  refine xm_E_s r_X10_partOf_7 rfl rfl ?_
  refine xm_E_t q1 ?_
  refine xm_E_s r_X10_partOf_10 rfl rfl ?_
  refine xm_E_s r_X10_partOf_11 rfl rfl ?_
  refine xm_E_f q2 ?_
  refine xm_E_s r_X10_partOf_16 rfl rfl ?_
  refine xm_E_s r_X10_partOf_17 rfl rfl ?_
  refine xm_E_s r_X10_partOf_18 rfl (xm_T_ldiv rfl q3) ?_
  exact xm_E_lret r_X10_partOf_19 rfl
theorem p_X10_partOf_0_2 {X : xm_X} {P : List xm_M} {d : Nat} {h : xm_H} {l0 : Int64} {l2 : Int64} {l4 : Int32} {h0 : xm_H} {r0 : Int64} (q0 : xm_V X P d 137 [.long l0, .long l2] h (some (.long r0)) h0) (q1 : ¬ ((0 : Int32) < lg_cmp r0 (0 : Int64))) : xm_E X P d co_X10_partOf 0 [some (.long l0), none, some (.long l2), none, some (.int l4), none, none] [] h (some (.long (0 : Int64))) h0 := by
  refine xm_E_s r_X10_partOf_0 rfl rfl ?_
  refine xm_E_s r_X10_partOf_1 rfl rfl ?_
  refine xm_E_cs [.long l0, .long l2] [] r_X10_partOf_2 rfl rfl rfl (Nat.le_of_ble_eq_true rfl) rfl q0 ?_
  refine xm_E_s (ls1 := [some (.long l0), none, some (.long l2), none, some (.int l4), some (.long r0), none]) r_X10_partOf_3 rfl rfl ?_
  refine xm_E_s r_X10_partOf_4 rfl rfl ?_
  refine xm_E_s r_X10_partOf_5 rfl rfl ?_
  refine xm_E_s r_X10_partOf_6 rfl rfl ?_
  refine xm_E_s r_X10_partOf_7 rfl rfl ?_
  refine xm_E_f q1 ?_
  refine xm_E_s r_X10_partOf_8 rfl rfl ?_
  exact xm_E_lret r_X10_partOf_9 rfl
theorem r_X10_commonOf_0 : co_X10_commonOf[0]? = some ((0, .lload_n 0, 0, 0, 0, 0, 0, 0, []) : xm_I) := rfl
theorem r_X10_commonOf_1 : co_X10_commonOf[1]? = some ((1, .lstore 4, 0, 0, 0, 0, 0, 0, []) : xm_I) := rfl
theorem r_X10_commonOf_2 : co_X10_commonOf[2]? = some ((3, .lload_n 2, 0, 0, 0, 0, 0, 0, []) : xm_I) := rfl
theorem r_X10_commonOf_3 : co_X10_commonOf[3]? = some ((4, .lstore 6, 0, 0, 0, 0, 0, 0, []) : xm_I) := rfl
theorem r_X10_commonOf_4 : co_X10_commonOf[4]? = some ((6, .iconst 0, 0, 0, 0, 0, 0, 0, []) : xm_I) := rfl
theorem r_X10_commonOf_5 : co_X10_commonOf[5]? = some ((7, .istore 8, 0, 0, 0, 0, 0, 0, []) : xm_I) := rfl
theorem r_X10_commonOf_6 : co_X10_commonOf[6]? = some ((9, .iload 8, 0, 0, 0, 0, 0, 0, []) : xm_I) := rfl
theorem r_X10_commonOf_7 : co_X10_commonOf[7]? = some ((11, .sipush 200, 0, 0, 0, 0, 200, 0, []) : xm_I) := rfl
theorem r_X10_commonOf_8 : co_X10_commonOf[8]? = some ((14, .if_icmp .ge 31, 0, 0, 23, 0, 0, 0, []) : xm_I) := rfl
theorem r_X10_commonOf_9 : co_X10_commonOf[9]? = some ((17, .lload 6, 0, 0, 0, 0, 0, 0, []) : xm_I) := rfl
theorem r_X10_commonOf_10 : co_X10_commonOf[10]? = some ((19, .lconst 0, 0, 0, 0, 0, 0, 0, []) : xm_I) := rfl
theorem r_X10_commonOf_11 : co_X10_commonOf[11]? = some ((20, .lcmp, 0, 0, 0, 0, 0, 0, []) : xm_I) := rfl
theorem r_X10_commonOf_12 : co_X10_commonOf[12]? = some ((21, .ifCond .eq 24, 0, 0, 23, 0, 0, 0, []) : xm_I) := rfl
theorem r_X10_commonOf_13 : co_X10_commonOf[13]? = some ((24, .lload 4, 0, 0, 0, 0, 0, 0, []) : xm_I) := rfl
theorem r_X10_commonOf_14 : co_X10_commonOf[14]? = some ((26, .lload 6, 0, 0, 0, 0, 0, 0, []) : xm_I) := rfl
theorem r_X10_commonOf_15 : co_X10_commonOf[15]? = some ((28, .lrem, 0, 0, 0, 0, 0, 0, []) : xm_I) := rfl
theorem r_X10_commonOf_16 : co_X10_commonOf[16]? = some ((29, .lstore 9, 0, 0, 0, 0, 0, 0, []) : xm_I) := rfl
theorem r_X10_commonOf_17 : co_X10_commonOf[17]? = some ((31, .lload 6, 0, 0, 0, 0, 0, 0, []) : xm_I) := rfl
theorem r_X10_commonOf_18 : co_X10_commonOf[18]? = some ((33, .lstore 4, 0, 0, 0, 0, 0, 0, []) : xm_I) := rfl
theorem r_X10_commonOf_19 : co_X10_commonOf[19]? = some ((35, .lload 9, 0, 0, 0, 0, 0, 0, []) : xm_I) := rfl
theorem r_X10_commonOf_20 : co_X10_commonOf[20]? = some ((37, .lstore 6, 0, 0, 0, 0, 0, 0, []) : xm_I) := rfl
theorem r_X10_commonOf_21 : co_X10_commonOf[21]? = some ((39, .iinc 8 1, 0, 0, 0, 0, 1, 0, []) : xm_I) := rfl
theorem r_X10_commonOf_22 : co_X10_commonOf[22]? = some ((42, .goto (-33), 0, 0, 6, 0, 0, 0, []) : xm_I) := rfl
theorem r_X10_commonOf_23 : co_X10_commonOf[23]? = some ((45, .lload 4, 0, 0, 0, 0, 0, 0, []) : xm_I) := rfl
theorem r_X10_commonOf_24 : co_X10_commonOf[24]? = some ((47, .lreturn, 0, 0, 0, 0, 0, 0, []) : xm_I) := rfl
theorem p_X10_commonOf_0_0 {X : xm_X} {P : List xm_M} {d : Nat} {h : xm_H} {l0 : Int64} {l2 : Int64} {ro : Option Value} {ho : xm_H}  (K : xm_E X P d co_X10_commonOf 6 [some (.long l0), none, some (.long l2), none, some (.long l0), none, some (.long l2), none, some (.int (0 : Int32)), none, none] [] h ro ho) : xm_E X P d co_X10_commonOf 0 [some (.long l0), none, some (.long l2), none, none, none, none, none, none, none, none] [] h ro ho := by
  refine xm_E_s r_X10_commonOf_0 rfl rfl ?_
  refine xm_E_s (ls1 := [some (.long l0), none, some (.long l2), none, some (.long l0), none, none, none, none, none, none]) r_X10_commonOf_1 rfl rfl ?_
  refine xm_E_s r_X10_commonOf_2 rfl rfl ?_
  refine xm_E_s (ls1 := [some (.long l0), none, some (.long l2), none, some (.long l0), none, some (.long l2), none, none, none, none]) r_X10_commonOf_3 rfl rfl ?_
  refine xm_E_s r_X10_commonOf_4 rfl rfl ?_
  refine xm_E_s (ls1 := [some (.long l0), none, some (.long l2), none, some (.long l0), none, some (.long l2), none, some (.int (0 : Int32)), none, none]) r_X10_commonOf_5 rfl rfl ?_
  exact K
theorem p_X10_commonOf_6_0 {X : xm_X} {P : List xm_M} {d : Nat} {h : xm_H} {l0 : Int64} {l2 : Int64} {l4 : Int64} {l6 : Int64} {l8 : Int32} {l9 : Option Value} (q0 : (200 : Int32) ≤ l8) : xm_E X P d co_X10_commonOf 6 [some (.long l0), none, some (.long l2), none, some (.long l4), none, some (.long l6), none, some (.int l8), l9, none] [] h (some (.long l4)) h := by
  refine xm_E_s r_X10_commonOf_6 rfl rfl ?_
  refine xm_E_s r_X10_commonOf_7 rfl rfl ?_
  refine xm_E_s r_X10_commonOf_8 rfl rfl ?_
  refine xm_E_t q0 ?_
  refine xm_E_s r_X10_commonOf_23 rfl rfl ?_
  exact xm_E_lret r_X10_commonOf_24 rfl
theorem p_X10_commonOf_6_1 {X : xm_X} {P : List xm_M} {d : Nat} {h : xm_H} {l0 : Int64} {l2 : Int64} {l4 : Int64} {l6 : Int64} {l8 : Int32} {l9 : Option Value} (q0 : ¬ ((200 : Int32) ≤ l8)) (q1 : lg_cmp l6 (0 : Int64) = (0 : Int32)) : xm_E X P d co_X10_commonOf 6 [some (.long l0), none, some (.long l2), none, some (.long l4), none, some (.long l6), none, some (.int l8), l9, none] [] h (some (.long l4)) h := by
  refine xm_E_s r_X10_commonOf_6 rfl rfl ?_
  refine xm_E_s r_X10_commonOf_7 rfl rfl ?_
  refine xm_E_s r_X10_commonOf_8 rfl rfl ?_
  refine xm_E_f q0 ?_
  refine xm_E_s r_X10_commonOf_9 rfl rfl ?_
  refine xm_E_s r_X10_commonOf_10 rfl rfl ?_
  refine xm_E_s r_X10_commonOf_11 rfl rfl ?_
  refine xm_E_s r_X10_commonOf_12 rfl rfl ?_
  refine xm_E_t q1 ?_
  refine xm_E_s r_X10_commonOf_23 rfl rfl ?_
  exact xm_E_lret r_X10_commonOf_24 rfl
theorem p_X10_commonOf_6_2 {X : xm_X} {P : List xm_M} {d : Nat} {h : xm_H} {l0 : Int64} {l2 : Int64} {l4 : Int64} {l6 : Int64} {l8 : Int32} {l9 : Option Value} {ro : Option Value} {ho : xm_H} (q0 : ¬ ((200 : Int32) ≤ l8)) (q1 : ¬ (lg_cmp l6 (0 : Int64) = (0 : Int32))) (q2 : ¬ l6 = 0) (K : xm_E X P d co_X10_commonOf 6 [some (.long l0), none, some (.long l2), none, some (.long l6), none, some (.long (l4 - l4 / l6 * l6)), none, some (.int (l8 + (1 : Int32))), some (.long (l4 - l4 / l6 * l6)), none] [] h ro ho) : xm_E X P d co_X10_commonOf 6 [some (.long l0), none, some (.long l2), none, some (.long l4), none, some (.long l6), none, some (.int l8), l9, none] [] h ro ho := by
  refine xm_E_s r_X10_commonOf_6 rfl rfl ?_
  refine xm_E_s r_X10_commonOf_7 rfl rfl ?_
  refine xm_E_s r_X10_commonOf_8 rfl rfl ?_
  refine xm_E_f q0 ?_
  refine xm_E_s r_X10_commonOf_9 rfl rfl ?_
  refine xm_E_s r_X10_commonOf_10 rfl rfl ?_
  refine xm_E_s r_X10_commonOf_11 rfl rfl ?_
  refine xm_E_s r_X10_commonOf_12 rfl rfl ?_
  refine xm_E_f q1 ?_
  refine xm_E_s r_X10_commonOf_13 rfl rfl ?_
  refine xm_E_s r_X10_commonOf_14 rfl rfl ?_
  refine xm_E_s r_X10_commonOf_15 rfl (xm_T_lrem rfl q2) ?_
  refine xm_E_s (ls1 := [some (.long l0), none, some (.long l2), none, some (.long l4), none, some (.long l6), none, some (.int l8), some (.long (l4 - l4 / l6 * l6)), none]) r_X10_commonOf_16 rfl rfl ?_
  refine xm_E_s r_X10_commonOf_17 rfl rfl ?_
  refine xm_E_s (ls1 := [some (.long l0), none, some (.long l2), none, some (.long l6), none, some (.long l6), none, some (.int l8), some (.long (l4 - l4 / l6 * l6)), none]) r_X10_commonOf_18 rfl rfl ?_
  refine xm_E_s r_X10_commonOf_19 rfl rfl ?_
  refine xm_E_s (ls1 := [some (.long l0), none, some (.long l2), none, some (.long l6), none, some (.long (l4 - l4 / l6 * l6)), none, some (.int l8), some (.long (l4 - l4 / l6 * l6)), none]) r_X10_commonOf_20 rfl rfl ?_
  refine xm_E_s (ls1 := [some (.long l0), none, some (.long l2), none, some (.long l6), none, some (.long (l4 - l4 / l6 * l6)), none, some (.int (l8 + (1 : Int32))), some (.long (l4 - l4 / l6 * l6)), none]) r_X10_commonOf_21 rfl rfl ?_
  refine xm_E_s r_X10_commonOf_22 rfl rfl ?_
  exact K
theorem r_X10_twists_0 : co_X10_twists[0]? = some ((0, .aload_n 0, 0, 0, 0, 0, 0, 0, []) : xm_I) := rfl
theorem r_X10_twists_1 : co_X10_twists[1]? = some ((1, .iload_n 1, 0, 0, 0, 0, 0, 0, []) : xm_I) := rfl
theorem r_X10_twists_2 : co_X10_twists[2]? = some ((2, .invokevirtual 146, 781, 56, 2, 9, 0, 0, []) : xm_I) := rfl
theorem r_X10_twists_3 : co_X10_twists[3]? = some ((5, .ifCond .eq 10, 0, 0, 7, 0, 0, 0, []) : xm_I) := rfl
theorem r_X10_twists_4 : co_X10_twists[4]? = some ((8, .iload_n 2, 0, 0, 0, 0, 0, 0, []) : xm_I) := rfl
theorem r_X10_twists_5 : co_X10_twists[5]? = some ((9, .invokestatic 261, 1094, 127, 1, 0, 0, 0, []) : xm_I) := rfl
theorem r_X10_twists_6 : co_X10_twists[6]? = some ((12, .ifCond .ne 6, 0, 0, 9, 0, 0, 0, []) : xm_I) := rfl
theorem r_X10_twists_7 : co_X10_twists[7]? = some ((15, .bipush (-2), 0, 0, 0, 0, (-2), 0, []) : xm_I) := rfl
theorem r_X10_twists_8 : co_X10_twists[8]? = some ((17, .ireturn, 0, 0, 0, 0, 0, 0, []) : xm_I) := rfl
theorem r_X10_twists_9 : co_X10_twists[9]? = some ((18, .aload_n 0, 0, 0, 0, 0, 0, 0, []) : xm_I) := rfl
theorem r_X10_twists_10 : co_X10_twists[10]? = some ((19, .getfield 19, 482, 9, 1, 2, 0, 0, []) : xm_I) := rfl
theorem r_X10_twists_11 : co_X10_twists[11]? = some ((22, .getfield 103, 305, 8, 0, 2, 0, 0, []) : xm_I) := rfl
theorem r_X10_twists_12 : co_X10_twists[12]? = some ((25, .iload_n 1, 0, 0, 0, 0, 0, 0, []) : xm_I) := rfl
theorem r_X10_twists_13 : co_X10_twists[13]? = some ((26, .invokevirtual 291, 1143, 139, 2, 0, 0, 0, []) : xm_I) := rfl
theorem r_X10_twists_14 : co_X10_twists[14]? = some ((29, .i2l, 0, 0, 0, 0, 0, 0, []) : xm_I) := rfl
theorem r_X10_twists_15 : co_X10_twists[15]? = some ((30, .ldc2_w 285, 1132, 0, 0, 0, 0, 10000, []) : xm_I) := rfl
theorem r_X10_twists_16 : co_X10_twists[16]? = some ((33, .iload_n 2, 0, 0, 0, 0, 0, 0, []) : xm_I) := rfl
theorem r_X10_twists_17 : co_X10_twists[17]? = some ((34, .invokestatic 287, 1133, 136, 3, 0, 0, 0, []) : xm_I) := rfl
theorem r_X10_twists_18 : co_X10_twists[18]? = some ((37, .l2i, 0, 0, 0, 0, 0, 0, []) : xm_I) := rfl
theorem r_X10_twists_19 : co_X10_twists[19]? = some ((38, .ireturn, 0, 0, 0, 0, 0, 0, []) : xm_I) := rfl
theorem p_X10_twists_0_0 {X : xm_X} {P : List xm_M} {d : Nat} {h : xm_H} {l0 : Nat} {l1 : Int32} {l2 : Int32} {h0 : xm_H} {r0 : Int32} (q0 : xm_V X P d 56 [.ref l0, .int l1] h (some (.int r0)) h0) (q1 : X.1[l0]? = some (.inr 9)) (q2 : r0 = (0 : Int32)) : xm_E X P d co_X10_twists 0 [some (.ref l0), some (.int l1), some (.int l2)] [] h (some (.int (-2 : Int32))) h0 := by
  refine xm_E_s r_X10_twists_0 rfl rfl ?_
  refine xm_E_s r_X10_twists_1 rfl rfl ?_
  refine xm_E_cv [.ref l0, .int l1] [] r_X10_twists_2 rfl rfl (Nat.le_of_ble_eq_true rfl) (xm_rc q1 (by decide)) rfl q0 ?_
  refine xm_E_s r_X10_twists_3 rfl rfl ?_
  refine xm_E_t q2 ?_
  refine xm_E_s r_X10_twists_7 rfl rfl ?_
  exact xm_E_iret r_X10_twists_8 rfl rfl
theorem p_X10_twists_0_1 {X : xm_X} {P : List xm_M} {d : Nat} {h : xm_H} {l0 : Nat} {l1 : Int32} {l2 : Int32} {h0 : xm_H} {r0 : Int32} {h1 : xm_H} {r1 : Int32} (q0 : xm_V X P d 56 [.ref l0, .int l1] h (some (.int r0)) h0) (q1 : X.1[l0]? = some (.inr 9)) (q2 : ¬ (r0 = (0 : Int32))) (q3 : xm_V X P d 127 [.int l2] h0 (some (.int r1)) h1) (q4 : r1 = (0 : Int32)) : xm_E X P d co_X10_twists 0 [some (.ref l0), some (.int l1), some (.int l2)] [] h (some (.int (-2 : Int32))) h1 := by
  refine xm_E_s r_X10_twists_0 rfl rfl ?_
  refine xm_E_s r_X10_twists_1 rfl rfl ?_
  refine xm_E_cv [.ref l0, .int l1] [] r_X10_twists_2 rfl rfl (Nat.le_of_ble_eq_true rfl) (xm_rc q1 (by decide)) rfl q0 ?_
  refine xm_E_s r_X10_twists_3 rfl rfl ?_
  refine xm_E_f q2 ?_
  refine xm_E_s r_X10_twists_4 rfl rfl ?_
  refine xm_E_cs [.int l2] [] r_X10_twists_5 rfl rfl rfl (Nat.le_of_ble_eq_true rfl) rfl q3 ?_
  refine xm_E_s r_X10_twists_6 rfl rfl ?_
  refine xm_E_t q4 ?_
  refine xm_E_s r_X10_twists_7 rfl rfl ?_
  exact xm_E_iret r_X10_twists_8 rfl rfl
theorem p_X10_twists_0_2 {X : xm_X} {P : List xm_M} {d : Nat} {h : xm_H} {l0 : Nat} {l1 : Int32} {l2 : Int32} {h0 : xm_H} {r0 : Int32} {h1 : xm_H} {r1 : Int32} {v2 : Nat} {v3 : Nat} {h4 : xm_H} {r4 : Int32} {h5 : xm_H} {r5 : Int64} (q0 : xm_V X P d 56 [.ref l0, .int l1] h (some (.int r0)) h0) (q1 : X.1[l0]? = some (.inr 9)) (q2 : ¬ (r0 = (0 : Int32))) (q3 : xm_V X P d 127 [.int l2] h0 (some (.int r1)) h1) (q4 : ¬ (r1 = (0 : Int32))) (q5 : h1.2.2 l0 1 = some v2) (q6 : X.1[v2]? = some (.inr 8)) (q7 : h1.2.2 v2 0 = some v3) (q8 : xm_V X P d 139 [.ref v3, .int l1] h1 (some (.int r4)) h4) (q9 : X.1[v3]? = some (.inr 0)) (q10 : xm_V X P d 136 [.long r4.toInt64, .long (10000 : Int64), .int l2] h4 (some (.long r5)) h5) : xm_E X P d co_X10_twists 0 [some (.ref l0), some (.int l1), some (.int l2)] [] h (some (.int r5.toInt32)) h5 := by
  refine xm_E_s r_X10_twists_0 rfl rfl ?_
  refine xm_E_s r_X10_twists_1 rfl rfl ?_
  refine xm_E_cv [.ref l0, .int l1] [] r_X10_twists_2 rfl rfl (Nat.le_of_ble_eq_true rfl) (xm_rc q1 (by decide)) rfl q0 ?_
  refine xm_E_s r_X10_twists_3 rfl rfl ?_
  refine xm_E_f q2 ?_
  refine xm_E_s r_X10_twists_4 rfl rfl ?_
  refine xm_E_cs [.int l2] [] r_X10_twists_5 rfl rfl rfl (Nat.le_of_ble_eq_true rfl) rfl q3 ?_
  refine xm_E_s r_X10_twists_6 rfl rfl ?_
  refine xm_E_f q4 ?_
  refine xm_E_s r_X10_twists_9 rfl rfl ?_
  refine xm_E_s r_X10_twists_10 rfl (xm_T_gr rfl q1 rfl rfl q5) ?_
  refine xm_E_s r_X10_twists_11 rfl (xm_T_gr rfl q6 rfl rfl q7) ?_
  refine xm_E_s r_X10_twists_12 rfl rfl ?_
  refine xm_E_cv [.ref v3, .int l1] [] r_X10_twists_13 rfl rfl (Nat.le_of_ble_eq_true rfl) (xm_rc q9 (by decide)) rfl q8 ?_
  refine xm_E_s r_X10_twists_14 rfl rfl ?_
  refine xm_E_s r_X10_twists_15 rfl rfl ?_
  refine xm_E_s r_X10_twists_16 rfl rfl ?_
  refine xm_E_cs [.long r4.toInt64, .long (10000 : Int64), .int l2] [] r_X10_twists_17 rfl rfl rfl (Nat.le_of_ble_eq_true rfl) rfl q10 ?_
  refine xm_E_s r_X10_twists_18 rfl rfl ?_
  exact xm_E_iret r_X10_twists_19 rfl rfl
theorem r_X10_mend_0 : co_X10_mend[0]? = some ((0, .aload_n 0, 0, 0, 0, 0, 0, 0, []) : xm_I) := rfl
theorem r_X10_mend_1 : co_X10_mend[1]? = some ((1, .iload_n 1, 0, 0, 0, 0, 0, 0, []) : xm_I) := rfl
theorem r_X10_mend_2 : co_X10_mend[2]? = some ((2, .invokevirtual 146, 781, 56, 2, 9, 0, 0, []) : xm_I) := rfl
theorem r_X10_mend_3 : co_X10_mend[3]? = some ((5, .ifCond .eq 25, 0, 0, 14, 0, 0, 0, []) : xm_I) := rfl
theorem r_X10_mend_4 : co_X10_mend[4]? = some ((8, .iload_n 2, 0, 0, 0, 0, 0, 0, []) : xm_I) := rfl
theorem r_X10_mend_5 : co_X10_mend[5]? = some ((9, .invokestatic 261, 1094, 127, 1, 0, 0, 0, []) : xm_I) := rfl
theorem r_X10_mend_6 : co_X10_mend[6]? = some ((12, .ifCond .eq 18, 0, 0, 14, 0, 0, 0, []) : xm_I) := rfl
theorem r_X10_mend_7 : co_X10_mend[7]? = some ((15, .aload_n 0, 0, 0, 0, 0, 0, 0, []) : xm_I) := rfl
theorem r_X10_mend_8 : co_X10_mend[8]? = some ((16, .getfield 19, 482, 9, 1, 2, 0, 0, []) : xm_I) := rfl
theorem r_X10_mend_9 : co_X10_mend[9]? = some ((19, .getfield 103, 305, 8, 0, 2, 0, 0, []) : xm_I) := rfl
theorem r_X10_mend_10 : co_X10_mend[10]? = some ((22, .iload_n 1, 0, 0, 0, 0, 0, 0, []) : xm_I) := rfl
theorem r_X10_mend_11 : co_X10_mend[11]? = some ((23, .invokevirtual 149, 785, 57, 2, 0, 0, 0, []) : xm_I) := rfl
theorem r_X10_mend_12 : co_X10_mend[12]? = some ((26, .iconst 1, 0, 0, 0, 0, 1, 0, []) : xm_I) := rfl
theorem r_X10_mend_13 : co_X10_mend[13]? = some ((27, .if_icmp .le 6, 0, 0, 16, 0, 0, 0, []) : xm_I) := rfl
theorem r_X10_mend_14 : co_X10_mend[14]? = some ((30, .bipush (-2), 0, 0, 0, 0, (-2), 0, []) : xm_I) := rfl
theorem r_X10_mend_15 : co_X10_mend[15]? = some ((32, .ireturn, 0, 0, 0, 0, 0, 0, []) : xm_I) := rfl
theorem r_X10_mend_16 : co_X10_mend[16]? = some ((33, .ldc2_w 285, 1132, 0, 0, 0, 0, 10000, []) : xm_I) := rfl
theorem r_X10_mend_17 : co_X10_mend[17]? = some ((36, .lstore_n 3, 0, 0, 0, 0, 0, 0, []) : xm_I) := rfl
theorem r_X10_mend_18 : co_X10_mend[18]? = some ((37, .aload_n 0, 0, 0, 0, 0, 0, 0, []) : xm_I) := rfl
theorem r_X10_mend_19 : co_X10_mend[19]? = some ((38, .getfield 19, 482, 9, 1, 2, 0, 0, []) : xm_I) := rfl
theorem r_X10_mend_20 : co_X10_mend[20]? = some ((41, .getfield 103, 305, 8, 0, 2, 0, 0, []) : xm_I) := rfl
theorem r_X10_mend_21 : co_X10_mend[21]? = some ((44, .iload_n 1, 0, 0, 0, 0, 0, 0, []) : xm_I) := rfl
theorem r_X10_mend_22 : co_X10_mend[22]? = some ((45, .invokevirtual 291, 1143, 139, 2, 0, 0, 0, []) : xm_I) := rfl
theorem r_X10_mend_23 : co_X10_mend[23]? = some ((48, .i2l, 0, 0, 0, 0, 0, 0, []) : xm_I) := rfl
theorem r_X10_mend_24 : co_X10_mend[24]? = some ((49, .lstore 5, 0, 0, 0, 0, 0, 0, []) : xm_I) := rfl
theorem r_X10_mend_25 : co_X10_mend[25]? = some ((51, .lload_n 3, 0, 0, 0, 0, 0, 0, []) : xm_I) := rfl
theorem r_X10_mend_26 : co_X10_mend[26]? = some ((52, .aload_n 0, 0, 0, 0, 0, 0, 0, []) : xm_I) := rfl
theorem r_X10_mend_27 : co_X10_mend[27]? = some ((53, .getfield 19, 482, 9, 1, 2, 0, 0, []) : xm_I) := rfl
theorem r_X10_mend_28 : co_X10_mend[28]? = some ((56, .getfield 103, 305, 8, 0, 2, 0, 0, []) : xm_I) := rfl
theorem r_X10_mend_29 : co_X10_mend[29]? = some ((59, .iconst 0, 0, 0, 0, 0, 0, 0, []) : xm_I) := rfl
theorem r_X10_mend_30 : co_X10_mend[30]? = some ((60, .invokevirtual 142, 776, 54, 2, 0, 0, 0, []) : xm_I) := rfl
theorem r_X10_mend_31 : co_X10_mend[31]? = some ((63, .i2l, 0, 0, 0, 0, 0, 0, []) : xm_I) := rfl
theorem r_X10_mend_32 : co_X10_mend[32]? = some ((64, .lmul, 0, 0, 0, 0, 0, 0, []) : xm_I) := rfl
theorem r_X10_mend_33 : co_X10_mend[33]? = some ((65, .lload 5, 0, 0, 0, 0, 0, 0, []) : xm_I) := rfl
theorem r_X10_mend_34 : co_X10_mend[34]? = some ((67, .aload_n 0, 0, 0, 0, 0, 0, 0, []) : xm_I) := rfl
theorem r_X10_mend_35 : co_X10_mend[35]? = some ((68, .getfield 19, 482, 9, 1, 2, 0, 0, []) : xm_I) := rfl
theorem r_X10_mend_36 : co_X10_mend[36]? = some ((71, .getfield 103, 305, 8, 0, 2, 0, 0, []) : xm_I) := rfl
theorem r_X10_mend_37 : co_X10_mend[37]? = some ((74, .bipush 9, 0, 0, 0, 0, 9, 0, []) : xm_I) := rfl
theorem r_X10_mend_38 : co_X10_mend[38]? = some ((76, .invokevirtual 142, 776, 54, 2, 0, 0, 0, []) : xm_I) := rfl
theorem r_X10_mend_39 : co_X10_mend[39]? = some ((79, .i2l, 0, 0, 0, 0, 0, 0, []) : xm_I) := rfl
theorem r_X10_mend_40 : co_X10_mend[40]? = some ((80, .lmul, 0, 0, 0, 0, 0, 0, []) : xm_I) := rfl
theorem r_X10_mend_41 : co_X10_mend[41]? = some ((81, .ladd, 0, 0, 0, 0, 0, 0, []) : xm_I) := rfl
theorem r_X10_mend_42 : co_X10_mend[42]? = some ((82, .lstore 7, 0, 0, 0, 0, 0, 0, []) : xm_I) := rfl
theorem r_X10_mend_43 : co_X10_mend[43]? = some ((84, .lload 7, 0, 0, 0, 0, 0, 0, []) : xm_I) := rfl
theorem r_X10_mend_44 : co_X10_mend[44]? = some ((86, .lload_n 3, 0, 0, 0, 0, 0, 0, []) : xm_I) := rfl
theorem r_X10_mend_45 : co_X10_mend[45]? = some ((87, .lload 5, 0, 0, 0, 0, 0, 0, []) : xm_I) := rfl
theorem r_X10_mend_46 : co_X10_mend[46]? = some ((89, .lsub, 0, 0, 0, 0, 0, 0, []) : xm_I) := rfl
theorem r_X10_mend_47 : co_X10_mend[47]? = some ((90, .iload_n 2, 0, 0, 0, 0, 0, 0, []) : xm_I) := rfl
theorem r_X10_mend_48 : co_X10_mend[48]? = some ((91, .invokestatic 287, 1133, 136, 3, 0, 0, 0, []) : xm_I) := rfl
theorem r_X10_mend_49 : co_X10_mend[49]? = some ((94, .l2i, 0, 0, 0, 0, 0, 0, []) : xm_I) := rfl
theorem r_X10_mend_50 : co_X10_mend[50]? = some ((95, .ireturn, 0, 0, 0, 0, 0, 0, []) : xm_I) := rfl
theorem p_X10_mend_0_0 {X : xm_X} {P : List xm_M} {d : Nat} {h : xm_H} {l0 : Nat} {l1 : Int32} {l2 : Int32} {h0 : xm_H} {r0 : Int32} (q0 : xm_V X P d 56 [.ref l0, .int l1] h (some (.int r0)) h0) (q1 : X.1[l0]? = some (.inr 9)) (q2 : r0 = (0 : Int32)) : xm_E X P d co_X10_mend 0 [some (.ref l0), some (.int l1), some (.int l2), none, none, none, none, none, none] [] h (some (.int (-2 : Int32))) h0 := by
  refine xm_E_s r_X10_mend_0 rfl rfl ?_
  refine xm_E_s r_X10_mend_1 rfl rfl ?_
  refine xm_E_cv [.ref l0, .int l1] [] r_X10_mend_2 rfl rfl (Nat.le_of_ble_eq_true rfl) (xm_rc q1 (by decide)) rfl q0 ?_
  refine xm_E_s r_X10_mend_3 rfl rfl ?_
  refine xm_E_t q2 ?_
  refine xm_E_s r_X10_mend_14 rfl rfl ?_
  exact xm_E_iret r_X10_mend_15 rfl rfl
theorem p_X10_mend_0_1 {X : xm_X} {P : List xm_M} {d : Nat} {h : xm_H} {l0 : Nat} {l1 : Int32} {l2 : Int32} {h0 : xm_H} {r0 : Int32} {h1 : xm_H} {r1 : Int32} (q0 : xm_V X P d 56 [.ref l0, .int l1] h (some (.int r0)) h0) (q1 : X.1[l0]? = some (.inr 9)) (q2 : ¬ (r0 = (0 : Int32))) (q3 : xm_V X P d 127 [.int l2] h0 (some (.int r1)) h1) (q4 : r1 = (0 : Int32)) : xm_E X P d co_X10_mend 0 [some (.ref l0), some (.int l1), some (.int l2), none, none, none, none, none, none] [] h (some (.int (-2 : Int32))) h1 := by
  refine xm_E_s r_X10_mend_0 rfl rfl ?_
  refine xm_E_s r_X10_mend_1 rfl rfl ?_
  refine xm_E_cv [.ref l0, .int l1] [] r_X10_mend_2 rfl rfl (Nat.le_of_ble_eq_true rfl) (xm_rc q1 (by decide)) rfl q0 ?_
  refine xm_E_s r_X10_mend_3 rfl rfl ?_
  refine xm_E_f q2 ?_
  refine xm_E_s r_X10_mend_4 rfl rfl ?_
  refine xm_E_cs [.int l2] [] r_X10_mend_5 rfl rfl rfl (Nat.le_of_ble_eq_true rfl) rfl q3 ?_
  refine xm_E_s r_X10_mend_6 rfl rfl ?_
  refine xm_E_t q4 ?_
  refine xm_E_s r_X10_mend_14 rfl rfl ?_
  exact xm_E_iret r_X10_mend_15 rfl rfl
theorem p_X10_mend_0_2 {X : xm_X} {P : List xm_M} {d : Nat} {h : xm_H} {l0 : Nat} {l1 : Int32} {l2 : Int32} {h0 : xm_H} {r0 : Int32} {h1 : xm_H} {r1 : Int32} {v2 : Nat} {v3 : Nat} {h4 : xm_H} {r4 : Int32} {v5 : Nat} {v6 : Nat} {h7 : xm_H} {r7 : Int32} {v8 : Nat} {v9 : Nat} {h10 : xm_H} {r10 : Int32} {v11 : Nat} {v12 : Nat} {h13 : xm_H} {r13 : Int32} {h14 : xm_H} {r14 : Int64} (q0 : xm_V X P d 56 [.ref l0, .int l1] h (some (.int r0)) h0) (q1 : X.1[l0]? = some (.inr 9)) (q2 : ¬ (r0 = (0 : Int32))) (q3 : xm_V X P d 127 [.int l2] h0 (some (.int r1)) h1) (q4 : ¬ (r1 = (0 : Int32))) (q5 : h1.2.2 l0 1 = some v2) (q6 : X.1[v2]? = some (.inr 8)) (q7 : h1.2.2 v2 0 = some v3) (q8 : xm_V X P d 57 [.ref v3, .int l1] h1 (some (.int r4)) h4) (q9 : X.1[v3]? = some (.inr 0)) (q10 : r4 ≤ (1 : Int32)) (q11 : h4.2.2 l0 1 = some v5) (q12 : X.1[v5]? = some (.inr 8)) (q13 : h4.2.2 v5 0 = some v6) (q14 : xm_V X P d 139 [.ref v6, .int l1] h4 (some (.int r7)) h7) (q15 : X.1[v6]? = some (.inr 0)) (q16 : h7.2.2 l0 1 = some v8) (q17 : X.1[v8]? = some (.inr 8)) (q18 : h7.2.2 v8 0 = some v9) (q19 : xm_V X P d 54 [.ref v9, .int (0 : Int32)] h7 (some (.int r10)) h10) (q20 : X.1[v9]? = some (.inr 0)) (q21 : h10.2.2 l0 1 = some v11) (q22 : X.1[v11]? = some (.inr 8)) (q23 : h10.2.2 v11 0 = some v12) (q24 : xm_V X P d 54 [.ref v12, .int (9 : Int32)] h10 (some (.int r13)) h13) (q25 : X.1[v12]? = some (.inr 0)) (q26 : xm_V X P d 136 [.long (((10000 : Int64) * r10.toInt64) + (r7.toInt64 * r13.toInt64)), .long ((10000 : Int64) - r7.toInt64), .int l2] h13 (some (.long r14)) h14) : xm_E X P d co_X10_mend 0 [some (.ref l0), some (.int l1), some (.int l2), none, none, none, none, none, none] [] h (some (.int r14.toInt32)) h14 := by
  refine xm_E_s r_X10_mend_0 rfl rfl ?_
  refine xm_E_s r_X10_mend_1 rfl rfl ?_
  refine xm_E_cv [.ref l0, .int l1] [] r_X10_mend_2 rfl rfl (Nat.le_of_ble_eq_true rfl) (xm_rc q1 (by decide)) rfl q0 ?_
  refine xm_E_s r_X10_mend_3 rfl rfl ?_
  refine xm_E_f q2 ?_
  refine xm_E_s r_X10_mend_4 rfl rfl ?_
  refine xm_E_cs [.int l2] [] r_X10_mend_5 rfl rfl rfl (Nat.le_of_ble_eq_true rfl) rfl q3 ?_
  refine xm_E_s r_X10_mend_6 rfl rfl ?_
  refine xm_E_f q4 ?_
  refine xm_E_s r_X10_mend_7 rfl rfl ?_
  refine xm_E_s r_X10_mend_8 rfl (xm_T_gr rfl q1 rfl rfl q5) ?_
  refine xm_E_s r_X10_mend_9 rfl (xm_T_gr rfl q6 rfl rfl q7) ?_
  refine xm_E_s r_X10_mend_10 rfl rfl ?_
  refine xm_E_cv [.ref v3, .int l1] [] r_X10_mend_11 rfl rfl (Nat.le_of_ble_eq_true rfl) (xm_rc q9 (by decide)) rfl q8 ?_
  refine xm_E_s r_X10_mend_12 rfl rfl ?_
  refine xm_E_s r_X10_mend_13 rfl rfl ?_
  refine xm_E_t q10 ?_
  refine xm_E_s r_X10_mend_16 rfl rfl ?_
  refine xm_E_s (ls1 := [some (.ref l0), some (.int l1), some (.int l2), some (.long (10000 : Int64)), none, none, none, none, none]) r_X10_mend_17 rfl rfl ?_
  refine xm_E_s r_X10_mend_18 rfl rfl ?_
  refine xm_E_s r_X10_mend_19 rfl (xm_T_gr rfl q1 rfl rfl q11) ?_
  refine xm_E_s r_X10_mend_20 rfl (xm_T_gr rfl q12 rfl rfl q13) ?_
  refine xm_E_s r_X10_mend_21 rfl rfl ?_
  refine xm_E_cv [.ref v6, .int l1] [] r_X10_mend_22 rfl rfl (Nat.le_of_ble_eq_true rfl) (xm_rc q15 (by decide)) rfl q14 ?_
  refine xm_E_s r_X10_mend_23 rfl rfl ?_
  refine xm_E_s (ls1 := [some (.ref l0), some (.int l1), some (.int l2), some (.long (10000 : Int64)), none, some (.long r7.toInt64), none, none, none]) r_X10_mend_24 rfl rfl ?_
  refine xm_E_s r_X10_mend_25 rfl rfl ?_
  refine xm_E_s r_X10_mend_26 rfl rfl ?_
  refine xm_E_s r_X10_mend_27 rfl (xm_T_gr rfl q1 rfl rfl q16) ?_
  refine xm_E_s r_X10_mend_28 rfl (xm_T_gr rfl q17 rfl rfl q18) ?_
  refine xm_E_s r_X10_mend_29 rfl rfl ?_
  refine xm_E_cv [.ref v9, .int (0 : Int32)] [.long (10000 : Int64)] r_X10_mend_30 rfl rfl (Nat.le_of_ble_eq_true rfl) (xm_rc q20 (by decide)) rfl q19 ?_
  refine xm_E_s r_X10_mend_31 rfl rfl ?_
  refine xm_E_s r_X10_mend_32 rfl rfl ?_
  refine xm_E_s r_X10_mend_33 rfl rfl ?_
  refine xm_E_s r_X10_mend_34 rfl rfl ?_
  refine xm_E_s r_X10_mend_35 rfl (xm_T_gr rfl q1 rfl rfl q21) ?_
  refine xm_E_s r_X10_mend_36 rfl (xm_T_gr rfl q22 rfl rfl q23) ?_
  refine xm_E_s r_X10_mend_37 rfl rfl ?_
  refine xm_E_cv [.ref v12, .int (9 : Int32)] [.long r7.toInt64, .long ((10000 : Int64) * r10.toInt64)] r_X10_mend_38 rfl rfl (Nat.le_of_ble_eq_true rfl) (xm_rc q25 (by decide)) rfl q24 ?_
  refine xm_E_s r_X10_mend_39 rfl rfl ?_
  refine xm_E_s r_X10_mend_40 rfl rfl ?_
  refine xm_E_s r_X10_mend_41 rfl rfl ?_
  refine xm_E_s (ls1 := [some (.ref l0), some (.int l1), some (.int l2), some (.long (10000 : Int64)), none, some (.long r7.toInt64), none, some (.long (((10000 : Int64) * r10.toInt64) + (r7.toInt64 * r13.toInt64))), none]) r_X10_mend_42 rfl rfl ?_
  refine xm_E_s r_X10_mend_43 rfl rfl ?_
  refine xm_E_s r_X10_mend_44 rfl rfl ?_
  refine xm_E_s r_X10_mend_45 rfl rfl ?_
  refine xm_E_s r_X10_mend_46 rfl rfl ?_
  refine xm_E_s r_X10_mend_47 rfl rfl ?_
  refine xm_E_cs [.long (((10000 : Int64) * r10.toInt64) + (r7.toInt64 * r13.toInt64)), .long ((10000 : Int64) - r7.toInt64), .int l2] [] r_X10_mend_48 rfl rfl rfl (Nat.le_of_ble_eq_true rfl) rfl q26 ?_
  refine xm_E_s r_X10_mend_49 rfl rfl ?_
  exact xm_E_iret r_X10_mend_50 rfl rfl
theorem p_X10_mend_0_3 {X : xm_X} {P : List xm_M} {d : Nat} {h : xm_H} {l0 : Nat} {l1 : Int32} {l2 : Int32} {h0 : xm_H} {r0 : Int32} {h1 : xm_H} {r1 : Int32} {v2 : Nat} {v3 : Nat} {h4 : xm_H} {r4 : Int32} (q0 : xm_V X P d 56 [.ref l0, .int l1] h (some (.int r0)) h0) (q1 : X.1[l0]? = some (.inr 9)) (q2 : ¬ (r0 = (0 : Int32))) (q3 : xm_V X P d 127 [.int l2] h0 (some (.int r1)) h1) (q4 : ¬ (r1 = (0 : Int32))) (q5 : h1.2.2 l0 1 = some v2) (q6 : X.1[v2]? = some (.inr 8)) (q7 : h1.2.2 v2 0 = some v3) (q8 : xm_V X P d 57 [.ref v3, .int l1] h1 (some (.int r4)) h4) (q9 : X.1[v3]? = some (.inr 0)) (q10 : ¬ (r4 ≤ (1 : Int32))) : xm_E X P d co_X10_mend 0 [some (.ref l0), some (.int l1), some (.int l2), none, none, none, none, none, none] [] h (some (.int (-2 : Int32))) h4 := by
  refine xm_E_s r_X10_mend_0 rfl rfl ?_
  refine xm_E_s r_X10_mend_1 rfl rfl ?_
  refine xm_E_cv [.ref l0, .int l1] [] r_X10_mend_2 rfl rfl (Nat.le_of_ble_eq_true rfl) (xm_rc q1 (by decide)) rfl q0 ?_
  refine xm_E_s r_X10_mend_3 rfl rfl ?_
  refine xm_E_f q2 ?_
  refine xm_E_s r_X10_mend_4 rfl rfl ?_
  refine xm_E_cs [.int l2] [] r_X10_mend_5 rfl rfl rfl (Nat.le_of_ble_eq_true rfl) rfl q3 ?_
  refine xm_E_s r_X10_mend_6 rfl rfl ?_
  refine xm_E_f q4 ?_
  refine xm_E_s r_X10_mend_7 rfl rfl ?_
  refine xm_E_s r_X10_mend_8 rfl (xm_T_gr rfl q1 rfl rfl q5) ?_
  refine xm_E_s r_X10_mend_9 rfl (xm_T_gr rfl q6 rfl rfl q7) ?_
  refine xm_E_s r_X10_mend_10 rfl rfl ?_
  refine xm_E_cv [.ref v3, .int l1] [] r_X10_mend_11 rfl rfl (Nat.le_of_ble_eq_true rfl) (xm_rc q9 (by decide)) rfl q8 ?_
  refine xm_E_s r_X10_mend_12 rfl rfl ?_
  refine xm_E_s r_X10_mend_13 rfl rfl ?_
  refine xm_E_f q10 ?_
  refine xm_E_s r_X10_mend_14 rfl rfl ?_
  exact xm_E_iret r_X10_mend_15 rfl rfl
theorem r_X10_chance_0 : co_X10_chance[0]? = some ((0, .iload_n 2, 0, 0, 0, 0, 0, 0, []) : xm_I) := rfl
theorem r_X10_chance_1 : co_X10_chance[1]? = some ((1, .invokestatic 261, 1094, 127, 1, 0, 0, 0, []) : xm_I) := rfl
theorem r_X10_chance_2 : co_X10_chance[2]? = some ((4, .ifCond .eq 21, 0, 0, 11, 0, 0, 0, []) : xm_I) := rfl
theorem r_X10_chance_3 : co_X10_chance[3]? = some ((7, .aload_n 0, 0, 0, 0, 0, 0, 0, []) : xm_I) := rfl
theorem r_X10_chance_4 : co_X10_chance[4]? = some ((8, .iload_n 1, 0, 0, 0, 0, 0, 0, []) : xm_I) := rfl
theorem r_X10_chance_5 : co_X10_chance[5]? = some ((9, .aload_n 0, 0, 0, 0, 0, 0, 0, []) : xm_I) := rfl
theorem r_X10_chance_6 : co_X10_chance[6]? = some ((10, .getfield 19, 482, 9, 1, 2, 0, 0, []) : xm_I) := rfl
theorem r_X10_chance_7 : co_X10_chance[7]? = some ((13, .getfield 103, 305, 8, 0, 2, 0, 0, []) : xm_I) := rfl
theorem r_X10_chance_8 : co_X10_chance[8]? = some ((16, .getfield 255, 226, 0, 6, 0, 0, 0, []) : xm_I) := rfl
theorem r_X10_chance_9 : co_X10_chance[9]? = some ((19, .invokevirtual 159, 828, 67, 3, 9, 0, 0, []) : xm_I) := rfl
theorem r_X10_chance_10 : co_X10_chance[10]? = some ((22, .goto 5, 0, 0, 12, 0, 0, 0, []) : xm_I) := rfl
theorem r_X10_chance_11 : co_X10_chance[11]? = some ((25, .bipush (-2), 0, 0, 0, 0, (-2), 0, []) : xm_I) := rfl
theorem r_X10_chance_12 : co_X10_chance[12]? = some ((27, .istore_n 3, 0, 0, 0, 0, 0, 0, []) : xm_I) := rfl
theorem r_X10_chance_13 : co_X10_chance[13]? = some ((28, .iload_n 3, 0, 0, 0, 0, 0, 0, []) : xm_I) := rfl
theorem r_X10_chance_14 : co_X10_chance[14]? = some ((29, .ifCond .eq 6, 0, 0, 18, 0, 0, 0, []) : xm_I) := rfl
theorem r_X10_chance_15 : co_X10_chance[15]? = some ((32, .iload_n 3, 0, 0, 0, 0, 0, 0, []) : xm_I) := rfl
theorem r_X10_chance_16 : co_X10_chance[16]? = some ((33, .i2l, 0, 0, 0, 0, 0, 0, []) : xm_I) := rfl
theorem r_X10_chance_17 : co_X10_chance[17]? = some ((34, .lreturn, 0, 0, 0, 0, 0, 0, []) : xm_I) := rfl
theorem r_X10_chance_18 : co_X10_chance[18]? = some ((35, .aload_n 0, 0, 0, 0, 0, 0, 0, []) : xm_I) := rfl
theorem r_X10_chance_19 : co_X10_chance[19]? = some ((36, .aload_n 0, 0, 0, 0, 0, 0, 0, []) : xm_I) := rfl
theorem r_X10_chance_20 : co_X10_chance[20]? = some ((37, .getfield 36, 485, 9, 4, 2, 0, 0, []) : xm_I) := rfl
theorem r_X10_chance_21 : co_X10_chance[21]? = some ((40, .iload_n 1, 0, 0, 0, 0, 0, 0, []) : xm_I) := rfl
theorem r_X10_chance_22 : co_X10_chance[22]? = some ((41, .aaload, 0, 0, 0, 0, 0, 0, []) : xm_I) := rfl
theorem r_X10_chance_23 : co_X10_chance[23]? = some ((42, .iload_n 2, 0, 0, 0, 0, 0, 0, []) : xm_I) := rfl
theorem r_X10_chance_24 : co_X10_chance[24]? = some ((43, .invokevirtual 294, 1155, 142, 3, 9, 0, 0, []) : xm_I) := rfl
theorem r_X10_chance_25 : co_X10_chance[25]? = some ((46, .lreturn, 0, 0, 0, 0, 0, 0, []) : xm_I) := rfl
theorem p_X10_chance_0_0 {X : xm_X} {P : List xm_M} {d : Nat} {h : xm_H} {l0 : Nat} {l1 : Int32} {l2 : Int32} {h0 : xm_H} {r0 : Int32} (q0 : xm_V X P d 127 [.int l2] h (some (.int r0)) h0) (q1 : r0 = (0 : Int32)) : xm_E X P d co_X10_chance 0 [some (.ref l0), some (.int l1), some (.int l2), none] [] h (some (.long ((-2 : Int32).toInt64))) h0 := by
  refine xm_E_s r_X10_chance_0 rfl rfl ?_
  refine xm_E_cs [.int l2] [] r_X10_chance_1 rfl rfl rfl (Nat.le_of_ble_eq_true rfl) rfl q0 ?_
  refine xm_E_s r_X10_chance_2 rfl rfl ?_
  refine xm_E_t q1 ?_
  refine xm_E_s r_X10_chance_11 rfl rfl ?_
  refine xm_E_s (ls1 := [some (.ref l0), some (.int l1), some (.int l2), some (.int (-2 : Int32))]) r_X10_chance_12 rfl rfl ?_
  refine xm_E_s r_X10_chance_13 rfl rfl ?_
  refine xm_E_s r_X10_chance_14 rfl rfl ?_
  show xm_E X P d co_X10_chance 15 _ _ _ _ _
  refine xm_E_s r_X10_chance_15 rfl rfl ?_
  refine xm_E_s r_X10_chance_16 rfl rfl ?_
  exact xm_E_lret r_X10_chance_17 rfl
theorem p_X10_chance_0_1 {X : xm_X} {P : List xm_M} {d : Nat} {h : xm_H} {l0 : Nat} {l1 : Int32} {l2 : Int32} {h0 : xm_H} {r0 : Int32} {v1 : Nat} {v2 : Nat} {h3 : xm_H} {r3 : Int32} {v4 : Nat} {n5 : Nat} {b5 : Nat} {v6 : Nat} {h7 : xm_H} {r7 : Int64} (q0 : xm_V X P d 127 [.int l2] h (some (.int r0)) h0) (q1 : ¬ (r0 = (0 : Int32))) (q2 : X.1[l0]? = some (.inr 9)) (q3 : h0.2.2 l0 1 = some v1) (q4 : X.1[v1]? = some (.inr 8)) (q5 : h0.2.2 v1 0 = some v2) (q6 : X.1[v2]? = some (.inr 0)) (q7 : xm_V X P d 67 [.ref l0, .int l1, .int (h0.1 v2 6)] h0 (some (.int r3)) h3) (q8 : r3 = (0 : Int32)) (q9 : h3.2.2 l0 4 = some v4) (q10 : X.1[v4]? = some (.inl (b5, n5))) (q11 : ¬ (l1 < 0 ∨ n5 ≤ l1.toNatClampNeg)) (q12 : b5 = 4 ∨ b5 = 5) (q13 : h3.2.2 v4 l1.toNatClampNeg = some v6) (q14 : xm_V X P d 142 [.ref l0, .ref v6, .int l2] h3 (some (.long r7)) h7) : xm_E X P d co_X10_chance 0 [some (.ref l0), some (.int l1), some (.int l2), none] [] h (some (.long r7)) h7 := by
  refine xm_E_s r_X10_chance_0 rfl rfl ?_
  refine xm_E_cs [.int l2] [] r_X10_chance_1 rfl rfl rfl (Nat.le_of_ble_eq_true rfl) rfl q0 ?_
  refine xm_E_s r_X10_chance_2 rfl rfl ?_
  refine xm_E_f q1 ?_
  refine xm_E_s r_X10_chance_3 rfl rfl ?_
  refine xm_E_s r_X10_chance_4 rfl rfl ?_
  refine xm_E_s r_X10_chance_5 rfl rfl ?_
  refine xm_E_s r_X10_chance_6 rfl (xm_T_gr rfl q2 rfl rfl q3) ?_
  refine xm_E_s r_X10_chance_7 rfl (xm_T_gr rfl q4 rfl rfl q5) ?_
  refine xm_E_s r_X10_chance_8 rfl (xm_T_gi rfl q6 rfl (Or.inl rfl)) ?_
  refine xm_E_cv [.ref l0, .int l1, .int (h0.1 v2 6)] [] r_X10_chance_9 rfl rfl (Nat.le_of_ble_eq_true rfl) (xm_rc q2 (by decide)) rfl q7 ?_
  refine xm_E_s r_X10_chance_10 rfl rfl ?_
  refine xm_E_s (ls1 := [some (.ref l0), some (.int l1), some (.int l2), some (.int r3)]) r_X10_chance_12 rfl rfl ?_
  refine xm_E_s r_X10_chance_13 rfl rfl ?_
  refine xm_E_s r_X10_chance_14 rfl rfl ?_
  refine xm_E_t q8 ?_
  refine xm_E_s r_X10_chance_18 rfl rfl ?_
  refine xm_E_s r_X10_chance_19 rfl rfl ?_
  refine xm_E_s r_X10_chance_20 rfl (xm_T_gr rfl q2 rfl rfl q9) ?_
  refine xm_E_s r_X10_chance_21 rfl rfl ?_
  refine xm_E_s r_X10_chance_22 rfl (xm_T_aald rfl q10 q12 q11 q13) ?_
  refine xm_E_s r_X10_chance_23 rfl rfl ?_
  refine xm_E_cv [.ref l0, .ref v6, .int l2] [] r_X10_chance_24 rfl rfl (Nat.le_of_ble_eq_true rfl) (xm_rc q2 (by decide)) rfl q14 ?_
  exact xm_E_lret r_X10_chance_25 rfl
theorem p_X10_chance_0_2 {X : xm_X} {P : List xm_M} {d : Nat} {h : xm_H} {l0 : Nat} {l1 : Int32} {l2 : Int32} {h0 : xm_H} {r0 : Int32} {v1 : Nat} {v2 : Nat} {h3 : xm_H} {r3 : Int32} (q0 : xm_V X P d 127 [.int l2] h (some (.int r0)) h0) (q1 : ¬ (r0 = (0 : Int32))) (q2 : X.1[l0]? = some (.inr 9)) (q3 : h0.2.2 l0 1 = some v1) (q4 : X.1[v1]? = some (.inr 8)) (q5 : h0.2.2 v1 0 = some v2) (q6 : X.1[v2]? = some (.inr 0)) (q7 : xm_V X P d 67 [.ref l0, .int l1, .int (h0.1 v2 6)] h0 (some (.int r3)) h3) (q8 : ¬ (r3 = (0 : Int32))) : xm_E X P d co_X10_chance 0 [some (.ref l0), some (.int l1), some (.int l2), none] [] h (some (.long r3.toInt64)) h3 := by
  refine xm_E_s r_X10_chance_0 rfl rfl ?_
  refine xm_E_cs [.int l2] [] r_X10_chance_1 rfl rfl rfl (Nat.le_of_ble_eq_true rfl) rfl q0 ?_
  refine xm_E_s r_X10_chance_2 rfl rfl ?_
  refine xm_E_f q1 ?_
  refine xm_E_s r_X10_chance_3 rfl rfl ?_
  refine xm_E_s r_X10_chance_4 rfl rfl ?_
  refine xm_E_s r_X10_chance_5 rfl rfl ?_
  refine xm_E_s r_X10_chance_6 rfl (xm_T_gr rfl q2 rfl rfl q3) ?_
  refine xm_E_s r_X10_chance_7 rfl (xm_T_gr rfl q4 rfl rfl q5) ?_
  refine xm_E_s r_X10_chance_8 rfl (xm_T_gi rfl q6 rfl (Or.inl rfl)) ?_
  refine xm_E_cv [.ref l0, .int l1, .int (h0.1 v2 6)] [] r_X10_chance_9 rfl rfl (Nat.le_of_ble_eq_true rfl) (xm_rc q2 (by decide)) rfl q7 ?_
  refine xm_E_s r_X10_chance_10 rfl rfl ?_
  refine xm_E_s (ls1 := [some (.ref l0), some (.int l1), some (.int l2), some (.int r3)]) r_X10_chance_12 rfl rfl ?_
  refine xm_E_s r_X10_chance_13 rfl rfl ?_
  refine xm_E_s r_X10_chance_14 rfl rfl ?_
  refine xm_E_f q8 ?_
  refine xm_E_s r_X10_chance_15 rfl rfl ?_
  refine xm_E_s r_X10_chance_16 rfl rfl ?_
  exact xm_E_lret r_X10_chance_17 rfl
theorem r_X10_chanceOf_0 : co_X10_chanceOf[0]? = some ((0, .iconst 0, 0, 0, 0, 0, 0, 0, []) : xm_I) := rfl
theorem r_X10_chanceOf_1 : co_X10_chanceOf[1]? = some ((1, .istore_n 3, 0, 0, 0, 0, 0, 0, []) : xm_I) := rfl
theorem r_X10_chanceOf_2 : co_X10_chanceOf[2]? = some ((2, .iconst 0, 0, 0, 0, 0, 0, 0, []) : xm_I) := rfl
theorem r_X10_chanceOf_3 : co_X10_chanceOf[3]? = some ((3, .istore 4, 0, 0, 0, 0, 0, 0, []) : xm_I) := rfl
theorem r_X10_chanceOf_4 : co_X10_chanceOf[4]? = some ((5, .iconst 0, 0, 0, 0, 0, 0, 0, []) : xm_I) := rfl
theorem r_X10_chanceOf_5 : co_X10_chanceOf[5]? = some ((6, .istore 5, 0, 0, 0, 0, 0, 0, []) : xm_I) := rfl
theorem r_X10_chanceOf_6 : co_X10_chanceOf[6]? = some ((8, .iload 5, 0, 0, 0, 0, 0, 0, []) : xm_I) := rfl
theorem r_X10_chanceOf_7 : co_X10_chanceOf[7]? = some ((10, .aload_n 1, 0, 0, 0, 0, 0, 0, []) : xm_I) := rfl
theorem r_X10_chanceOf_8 : co_X10_chanceOf[8]? = some ((11, .getfield 382, 471, 2, 3, 0, 0, 0, []) : xm_I) := rfl
theorem r_X10_chanceOf_9 : co_X10_chanceOf[9]? = some ((14, .if_icmp .ge 72, 0, 0, 43, 0, 0, 0, []) : xm_I) := rfl
theorem r_X10_chanceOf_10 : co_X10_chanceOf[10]? = some ((17, .aload_n 1, 0, 0, 0, 0, 0, 0, []) : xm_I) := rfl
theorem r_X10_chanceOf_11 : co_X10_chanceOf[11]? = some ((18, .iload 5, 0, 0, 0, 0, 0, 0, []) : xm_I) := rfl
theorem r_X10_chanceOf_12 : co_X10_chanceOf[12]? = some ((20, .invokevirtual 427, 1159, 70, 2, 2, 0, 0, []) : xm_I) := rfl
theorem r_X10_chanceOf_13 : co_X10_chanceOf[13]? = some ((23, .l2i, 0, 0, 0, 0, 0, 0, []) : xm_I) := rfl
theorem r_X10_chanceOf_14 : co_X10_chanceOf[14]? = some ((24, .istore 6, 0, 0, 0, 0, 0, 0, []) : xm_I) := rfl
theorem r_X10_chanceOf_15 : co_X10_chanceOf[15]? = some ((26, .iload_n 3, 0, 0, 0, 0, 0, 0, []) : xm_I) := rfl
theorem r_X10_chanceOf_16 : co_X10_chanceOf[16]? = some ((27, .aload_n 0, 0, 0, 0, 0, 0, 0, []) : xm_I) := rfl
theorem r_X10_chanceOf_17 : co_X10_chanceOf[17]? = some ((28, .getfield 19, 482, 9, 1, 2, 0, 0, []) : xm_I) := rfl
theorem r_X10_chanceOf_18 : co_X10_chanceOf[18]? = some ((31, .getfield 103, 305, 8, 0, 2, 0, 0, []) : xm_I) := rfl
theorem r_X10_chanceOf_19 : co_X10_chanceOf[19]? = some ((34, .iload 6, 0, 0, 0, 0, 0, 0, []) : xm_I) := rfl
theorem r_X10_chanceOf_20 : co_X10_chanceOf[20]? = some ((36, .invokevirtual 273, 1111, 58, 2, 0, 0, 0, []) : xm_I) := rfl
theorem r_X10_chanceOf_21 : co_X10_chanceOf[21]? = some ((39, .invokestatic 431, 1160, 135, 1, 0, 0, 0, []) : xm_I) := rfl
theorem r_X10_chanceOf_22 : co_X10_chanceOf[22]? = some ((42, .ifCond .eq 7, 0, 0, 25, 0, 0, 0, []) : xm_I) := rfl
theorem r_X10_chanceOf_23 : co_X10_chanceOf[23]? = some ((45, .iconst 1, 0, 0, 0, 0, 1, 0, []) : xm_I) := rfl
theorem r_X10_chanceOf_24 : co_X10_chanceOf[24]? = some ((46, .goto 4, 0, 0, 26, 0, 0, 0, []) : xm_I) := rfl
theorem r_X10_chanceOf_25 : co_X10_chanceOf[25]? = some ((49, .iconst 0, 0, 0, 0, 0, 0, 0, []) : xm_I) := rfl
theorem r_X10_chanceOf_26 : co_X10_chanceOf[26]? = some ((50, .iadd, 0, 0, 0, 0, 0, 0, []) : xm_I) := rfl
theorem r_X10_chanceOf_27 : co_X10_chanceOf[27]? = some ((51, .istore_n 3, 0, 0, 0, 0, 0, 0, []) : xm_I) := rfl
theorem r_X10_chanceOf_28 : co_X10_chanceOf[28]? = some ((52, .iload 4, 0, 0, 0, 0, 0, 0, []) : xm_I) := rfl
theorem r_X10_chanceOf_29 : co_X10_chanceOf[29]? = some ((54, .aload_n 0, 0, 0, 0, 0, 0, 0, []) : xm_I) := rfl
theorem r_X10_chanceOf_30 : co_X10_chanceOf[30]? = some ((55, .getfield 19, 482, 9, 1, 2, 0, 0, []) : xm_I) := rfl
theorem r_X10_chanceOf_31 : co_X10_chanceOf[31]? = some ((58, .getfield 103, 305, 8, 0, 2, 0, 0, []) : xm_I) := rfl
theorem r_X10_chanceOf_32 : co_X10_chanceOf[32]? = some ((61, .iload 6, 0, 0, 0, 0, 0, 0, []) : xm_I) := rfl
theorem r_X10_chanceOf_33 : co_X10_chanceOf[33]? = some ((63, .invokevirtual 276, 1112, 59, 2, 0, 0, 0, []) : xm_I) := rfl
theorem r_X10_chanceOf_34 : co_X10_chanceOf[34]? = some ((66, .invokestatic 431, 1160, 135, 1, 0, 0, 0, []) : xm_I) := rfl
theorem r_X10_chanceOf_35 : co_X10_chanceOf[35]? = some ((69, .ifCond .eq 7, 0, 0, 38, 0, 0, 0, []) : xm_I) := rfl
theorem r_X10_chanceOf_36 : co_X10_chanceOf[36]? = some ((72, .iconst 1, 0, 0, 0, 0, 1, 0, []) : xm_I) := rfl
theorem r_X10_chanceOf_37 : co_X10_chanceOf[37]? = some ((73, .goto 4, 0, 0, 39, 0, 0, 0, []) : xm_I) := rfl
theorem r_X10_chanceOf_38 : co_X10_chanceOf[38]? = some ((76, .iconst 0, 0, 0, 0, 0, 0, 0, []) : xm_I) := rfl
theorem r_X10_chanceOf_39 : co_X10_chanceOf[39]? = some ((77, .iadd, 0, 0, 0, 0, 0, 0, []) : xm_I) := rfl
theorem r_X10_chanceOf_40 : co_X10_chanceOf[40]? = some ((78, .istore 4, 0, 0, 0, 0, 0, 0, []) : xm_I) := rfl
theorem r_X10_chanceOf_41 : co_X10_chanceOf[41]? = some ((80, .iinc 5 1, 0, 0, 0, 0, 1, 0, []) : xm_I) := rfl
theorem r_X10_chanceOf_42 : co_X10_chanceOf[42]? = some ((83, .goto (-75), 0, 0, 6, 0, 0, 0, []) : xm_I) := rfl
theorem r_X10_chanceOf_43 : co_X10_chanceOf[43]? = some ((86, .iload_n 3, 0, 0, 0, 0, 0, 0, []) : xm_I) := rfl
theorem r_X10_chanceOf_44 : co_X10_chanceOf[44]? = some ((87, .iload 4, 0, 0, 0, 0, 0, 0, []) : xm_I) := rfl
theorem r_X10_chanceOf_45 : co_X10_chanceOf[45]? = some ((89, .iadd, 0, 0, 0, 0, 0, 0, []) : xm_I) := rfl
theorem r_X10_chanceOf_46 : co_X10_chanceOf[46]? = some ((90, .bipush 8, 0, 0, 0, 0, 8, 0, []) : xm_I) := rfl
theorem r_X10_chanceOf_47 : co_X10_chanceOf[47]? = some ((92, .if_icmp .le 7, 0, 0, 50, 0, 0, 0, []) : xm_I) := rfl
theorem r_X10_chanceOf_48 : co_X10_chanceOf[48]? = some ((95, .ldc2_w 434, 1161, 0, 0, 0, 0, (-1), []) : xm_I) := rfl
theorem r_X10_chanceOf_49 : co_X10_chanceOf[49]? = some ((98, .lreturn, 0, 0, 0, 0, 0, 0, []) : xm_I) := rfl
theorem r_X10_chanceOf_50 : co_X10_chanceOf[50]? = some ((99, .bipush 100, 0, 0, 0, 0, 100, 0, []) : xm_I) := rfl
theorem r_X10_chanceOf_51 : co_X10_chanceOf[51]? = some ((101, .aload_n 0, 0, 0, 0, 0, 0, 0, []) : xm_I) := rfl
theorem r_X10_chanceOf_52 : co_X10_chanceOf[52]? = some ((102, .getfield 19, 482, 9, 1, 2, 0, 0, []) : xm_I) := rfl
theorem r_X10_chanceOf_53 : co_X10_chanceOf[53]? = some ((105, .getfield 103, 305, 8, 0, 2, 0, 0, []) : xm_I) := rfl
theorem r_X10_chanceOf_54 : co_X10_chanceOf[54]? = some ((108, .getfield 436, 230, 0, 7, 0, 0, 0, []) : xm_I) := rfl
theorem r_X10_chanceOf_55 : co_X10_chanceOf[55]? = some ((111, .isub, 0, 0, 0, 0, 0, 0, []) : xm_I) := rfl
theorem r_X10_chanceOf_56 : co_X10_chanceOf[56]? = some ((112, .i2l, 0, 0, 0, 0, 0, 0, []) : xm_I) := rfl
theorem r_X10_chanceOf_57 : co_X10_chanceOf[57]? = some ((113, .iload_n 3, 0, 0, 0, 0, 0, 0, []) : xm_I) := rfl
theorem r_X10_chanceOf_58 : co_X10_chanceOf[58]? = some ((114, .invokestatic 439, 1162, 143, 2, 0, 0, 0, []) : xm_I) := rfl
theorem r_X10_chanceOf_59 : co_X10_chanceOf[59]? = some ((117, .bipush 100, 0, 0, 0, 0, 100, 0, []) : xm_I) := rfl
theorem r_X10_chanceOf_60 : co_X10_chanceOf[60]? = some ((119, .aload_n 0, 0, 0, 0, 0, 0, 0, []) : xm_I) := rfl
theorem r_X10_chanceOf_61 : co_X10_chanceOf[61]? = some ((120, .getfield 19, 482, 9, 1, 2, 0, 0, []) : xm_I) := rfl
theorem r_X10_chanceOf_62 : co_X10_chanceOf[62]? = some ((123, .getfield 103, 305, 8, 0, 2, 0, 0, []) : xm_I) := rfl
theorem r_X10_chanceOf_63 : co_X10_chanceOf[63]? = some ((126, .getfield 443, 234, 0, 8, 0, 0, 0, []) : xm_I) := rfl
theorem r_X10_chanceOf_64 : co_X10_chanceOf[64]? = some ((129, .isub, 0, 0, 0, 0, 0, 0, []) : xm_I) := rfl
theorem r_X10_chanceOf_65 : co_X10_chanceOf[65]? = some ((130, .i2l, 0, 0, 0, 0, 0, 0, []) : xm_I) := rfl
theorem r_X10_chanceOf_66 : co_X10_chanceOf[66]? = some ((131, .iload 4, 0, 0, 0, 0, 0, 0, []) : xm_I) := rfl
theorem r_X10_chanceOf_67 : co_X10_chanceOf[67]? = some ((133, .invokestatic 439, 1162, 143, 2, 0, 0, 0, []) : xm_I) := rfl
theorem r_X10_chanceOf_68 : co_X10_chanceOf[68]? = some ((136, .lmul, 0, 0, 0, 0, 0, 0, []) : xm_I) := rfl
theorem r_X10_chanceOf_69 : co_X10_chanceOf[69]? = some ((137, .lstore 5, 0, 0, 0, 0, 0, 0, []) : xm_I) := rfl
theorem r_X10_chanceOf_70 : co_X10_chanceOf[70]? = some ((139, .lload 5, 0, 0, 0, 0, 0, 0, []) : xm_I) := rfl
theorem r_X10_chanceOf_71 : co_X10_chanceOf[71]? = some ((141, .ldc2_w 446, 1165, 0, 0, 0, 0, 100, []) : xm_I) := rfl
theorem r_X10_chanceOf_72 : co_X10_chanceOf[72]? = some ((144, .iload_n 3, 0, 0, 0, 0, 0, 0, []) : xm_I) := rfl
theorem r_X10_chanceOf_73 : co_X10_chanceOf[73]? = some ((145, .iload 4, 0, 0, 0, 0, 0, 0, []) : xm_I) := rfl
theorem r_X10_chanceOf_74 : co_X10_chanceOf[74]? = some ((147, .iadd, 0, 0, 0, 0, 0, 0, []) : xm_I) := rfl
theorem r_X10_chanceOf_75 : co_X10_chanceOf[75]? = some ((148, .invokestatic 439, 1162, 143, 2, 0, 0, 0, []) : xm_I) := rfl
theorem r_X10_chanceOf_76 : co_X10_chanceOf[76]? = some ((151, .iload_n 2, 0, 0, 0, 0, 0, 0, []) : xm_I) := rfl
theorem r_X10_chanceOf_77 : co_X10_chanceOf[77]? = some ((152, .invokestatic 287, 1133, 136, 3, 0, 0, 0, []) : xm_I) := rfl
theorem r_X10_chanceOf_78 : co_X10_chanceOf[78]? = some ((155, .lreturn, 0, 0, 0, 0, 0, 0, []) : xm_I) := rfl
theorem p_X10_chanceOf_0_0 {X : xm_X} {P : List xm_M} {d : Nat} {h : xm_H} {l0 : Nat} {l1 : Nat} {l2 : Int32} {ro : Option Value} {ho : xm_H}  (K : xm_E X P d co_X10_chanceOf 6 [some (.ref l0), some (.ref l1), some (.int l2), some (.int (0 : Int32)), some (.int (0 : Int32)), some (.int (0 : Int32)), none] [] h ro ho) : xm_E X P d co_X10_chanceOf 0 [some (.ref l0), some (.ref l1), some (.int l2), none, none, none, none] [] h ro ho := by
  refine xm_E_s r_X10_chanceOf_0 rfl rfl ?_
  refine xm_E_s (ls1 := [some (.ref l0), some (.ref l1), some (.int l2), some (.int (0 : Int32)), none, none, none]) r_X10_chanceOf_1 rfl rfl ?_
  refine xm_E_s r_X10_chanceOf_2 rfl rfl ?_
  refine xm_E_s (ls1 := [some (.ref l0), some (.ref l1), some (.int l2), some (.int (0 : Int32)), some (.int (0 : Int32)), none, none]) r_X10_chanceOf_3 rfl rfl ?_
  refine xm_E_s r_X10_chanceOf_4 rfl rfl ?_
  refine xm_E_s (ls1 := [some (.ref l0), some (.ref l1), some (.int l2), some (.int (0 : Int32)), some (.int (0 : Int32)), some (.int (0 : Int32)), none]) r_X10_chanceOf_5 rfl rfl ?_
  exact K
theorem p_X10_chanceOf_6_0 {X : xm_X} {P : List xm_M} {d : Nat} {h : xm_H} {l0 : Nat} {l1 : Nat} {l2 : Int32} {l3 : Int32} {l4 : Int32} {l5 : Int32} {l6 : Option Value} {v0 : Nat} {v1 : Nat} {h2 : xm_H} {r2 : Int64} {v3 : Nat} {v4 : Nat} {h5 : xm_H} {r5 : Int64} {h6 : xm_H} {r6 : Int64} {h7 : xm_H} {r7 : Int64} (q0 : X.1[l1]? = some (.inr 2)) (q1 : h.1 l1 3 ≤ l5) (q2 : l3 + l4 ≤ (8 : Int32)) (q3 : X.1[l0]? = some (.inr 9)) (q4 : h.2.2 l0 1 = some v0) (q5 : X.1[v0]? = some (.inr 8)) (q6 : h.2.2 v0 0 = some v1) (q7 : X.1[v1]? = some (.inr 0)) (q8 : xm_V X P d 143 [.long (((100 : Int32) - (h.1 v1 7)).toInt64), .int l3] h (some (.long r2)) h2) (q9 : h2.2.2 l0 1 = some v3) (q10 : X.1[v3]? = some (.inr 8)) (q11 : h2.2.2 v3 0 = some v4) (q12 : X.1[v4]? = some (.inr 0)) (q13 : xm_V X P d 143 [.long (((100 : Int32) - (h2.1 v4 8)).toInt64), .int l4] h2 (some (.long r5)) h5) (q14 : xm_V X P d 143 [.long (100 : Int64), .int (l3 + l4)] h5 (some (.long r6)) h6) (q15 : xm_V X P d 136 [.long (r2 * r5), .long r6, .int l2] h6 (some (.long r7)) h7) : xm_E X P d co_X10_chanceOf 6 [some (.ref l0), some (.ref l1), some (.int l2), some (.int l3), some (.int l4), some (.int l5), l6] [] h (some (.long r7)) h7 := by
  refine xm_E_s r_X10_chanceOf_6 rfl rfl ?_
  refine xm_E_s r_X10_chanceOf_7 rfl rfl ?_
  refine xm_E_s r_X10_chanceOf_8 rfl (xm_T_gi rfl q0 rfl (Or.inl rfl)) ?_
  refine xm_E_s r_X10_chanceOf_9 rfl rfl ?_
  refine xm_E_t q1 ?_
  refine xm_E_s r_X10_chanceOf_43 rfl rfl ?_
  refine xm_E_s r_X10_chanceOf_44 rfl rfl ?_
  refine xm_E_s r_X10_chanceOf_45 rfl rfl ?_
  refine xm_E_s r_X10_chanceOf_46 rfl rfl ?_
  refine xm_E_s r_X10_chanceOf_47 rfl rfl ?_
  refine xm_E_t q2 ?_
  refine xm_E_s r_X10_chanceOf_50 rfl rfl ?_
  refine xm_E_s r_X10_chanceOf_51 rfl rfl ?_
  refine xm_E_s r_X10_chanceOf_52 rfl (xm_T_gr rfl q3 rfl rfl q4) ?_
  refine xm_E_s r_X10_chanceOf_53 rfl (xm_T_gr rfl q5 rfl rfl q6) ?_
  refine xm_E_s r_X10_chanceOf_54 rfl (xm_T_gi rfl q7 rfl (Or.inl rfl)) ?_
  refine xm_E_s r_X10_chanceOf_55 rfl rfl ?_
  refine xm_E_s r_X10_chanceOf_56 rfl rfl ?_
  refine xm_E_s r_X10_chanceOf_57 rfl rfl ?_
  refine xm_E_cs [.long (((100 : Int32) - (h.1 v1 7)).toInt64), .int l3] [] r_X10_chanceOf_58 rfl rfl rfl (Nat.le_of_ble_eq_true rfl) rfl q8 ?_
  refine xm_E_s r_X10_chanceOf_59 rfl rfl ?_
  refine xm_E_s r_X10_chanceOf_60 rfl rfl ?_
  refine xm_E_s r_X10_chanceOf_61 rfl (xm_T_gr rfl q3 rfl rfl q9) ?_
  refine xm_E_s r_X10_chanceOf_62 rfl (xm_T_gr rfl q10 rfl rfl q11) ?_
  refine xm_E_s r_X10_chanceOf_63 rfl (xm_T_gi rfl q12 rfl (Or.inl rfl)) ?_
  refine xm_E_s r_X10_chanceOf_64 rfl rfl ?_
  refine xm_E_s r_X10_chanceOf_65 rfl rfl ?_
  refine xm_E_s r_X10_chanceOf_66 rfl rfl ?_
  refine xm_E_cs [.long (((100 : Int32) - (h2.1 v4 8)).toInt64), .int l4] [.long r2] r_X10_chanceOf_67 rfl rfl rfl (Nat.le_of_ble_eq_true rfl) rfl q13 ?_
  refine xm_E_s r_X10_chanceOf_68 rfl rfl ?_
  refine xm_E_s (ls1 := [some (.ref l0), some (.ref l1), some (.int l2), some (.int l3), some (.int l4), some (.long (r2 * r5)), none]) r_X10_chanceOf_69 rfl rfl ?_
  refine xm_E_s r_X10_chanceOf_70 rfl rfl ?_
  refine xm_E_s r_X10_chanceOf_71 rfl rfl ?_
  refine xm_E_s r_X10_chanceOf_72 rfl rfl ?_
  refine xm_E_s r_X10_chanceOf_73 rfl rfl ?_
  refine xm_E_s r_X10_chanceOf_74 rfl rfl ?_
  refine xm_E_cs [.long (100 : Int64), .int (l3 + l4)] [.long (r2 * r5)] r_X10_chanceOf_75 rfl rfl rfl (Nat.le_of_ble_eq_true rfl) rfl q14 ?_
  refine xm_E_s r_X10_chanceOf_76 rfl rfl ?_
  refine xm_E_cs [.long (r2 * r5), .long r6, .int l2] [] r_X10_chanceOf_77 rfl rfl rfl (Nat.le_of_ble_eq_true rfl) rfl q15 ?_
  exact xm_E_lret r_X10_chanceOf_78 rfl
theorem p_X10_chanceOf_6_1 {X : xm_X} {P : List xm_M} {d : Nat} {h : xm_H} {l0 : Nat} {l1 : Nat} {l2 : Int32} {l3 : Int32} {l4 : Int32} {l5 : Int32} {l6 : Option Value} (q0 : X.1[l1]? = some (.inr 2)) (q1 : h.1 l1 3 ≤ l5) (q2 : ¬ (l3 + l4 ≤ (8 : Int32))) : xm_E X P d co_X10_chanceOf 6 [some (.ref l0), some (.ref l1), some (.int l2), some (.int l3), some (.int l4), some (.int l5), l6] [] h (some (.long (-1 : Int64))) h := by
  refine xm_E_s r_X10_chanceOf_6 rfl rfl ?_
  refine xm_E_s r_X10_chanceOf_7 rfl rfl ?_
  refine xm_E_s r_X10_chanceOf_8 rfl (xm_T_gi rfl q0 rfl (Or.inl rfl)) ?_
  refine xm_E_s r_X10_chanceOf_9 rfl rfl ?_
  refine xm_E_t q1 ?_
  refine xm_E_s r_X10_chanceOf_43 rfl rfl ?_
  refine xm_E_s r_X10_chanceOf_44 rfl rfl ?_
  refine xm_E_s r_X10_chanceOf_45 rfl rfl ?_
  refine xm_E_s r_X10_chanceOf_46 rfl rfl ?_
  refine xm_E_s r_X10_chanceOf_47 rfl rfl ?_
  refine xm_E_f q2 ?_
  refine xm_E_s r_X10_chanceOf_48 rfl rfl ?_
  exact xm_E_lret r_X10_chanceOf_49 rfl
theorem p_X10_chanceOf_6_2 {X : xm_X} {P : List xm_M} {d : Nat} {h : xm_H} {l0 : Nat} {l1 : Nat} {l2 : Int32} {l3 : Int32} {l4 : Int32} {l5 : Int32} {l6 : Option Value} {h0 : xm_H} {r0 : Int64} {v1 : Nat} {v2 : Nat} {h3 : xm_H} {r3 : Int32} {h4 : xm_H} {r4 : Int32} {v5 : Nat} {v6 : Nat} {h7 : xm_H} {r7 : Int32} {h8 : xm_H} {r8 : Int32} {ro : Option Value} {ho : xm_H} (q0 : X.1[l1]? = some (.inr 2)) (q1 : ¬ (h.1 l1 3 ≤ l5)) (q2 : xm_V X P d 70 [.ref l1, .int l5] h (some (.long r0)) h0) (q3 : X.1[l0]? = some (.inr 9)) (q4 : h0.2.2 l0 1 = some v1) (q5 : X.1[v1]? = some (.inr 8)) (q6 : h0.2.2 v1 0 = some v2) (q7 : xm_V X P d 58 [.ref v2, .int r0.toInt32] h0 (some (.int r3)) h3) (q8 : X.1[v2]? = some (.inr 0)) (q9 : xm_V X P d 135 [.int r3] h3 (some (.int r4)) h4) (q10 : r4 = (0 : Int32)) (q11 : h4.2.2 l0 1 = some v5) (q12 : X.1[v5]? = some (.inr 8)) (q13 : h4.2.2 v5 0 = some v6) (q14 : xm_V X P d 59 [.ref v6, .int r0.toInt32] h4 (some (.int r7)) h7) (q15 : X.1[v6]? = some (.inr 0)) (q16 : xm_V X P d 135 [.int r7] h7 (some (.int r8)) h8) (q17 : r8 = (0 : Int32)) (K : xm_E X P d co_X10_chanceOf 6 [some (.ref l0), some (.ref l1), some (.int l2), some (.int (l3 + (0 : Int32))), some (.int (l4 + (0 : Int32))), some (.int (l5 + (1 : Int32))), some (.int r0.toInt32)] [] h8 ro ho) : xm_E X P d co_X10_chanceOf 6 [some (.ref l0), some (.ref l1), some (.int l2), some (.int l3), some (.int l4), some (.int l5), l6] [] h ro ho := by
  refine xm_E_s r_X10_chanceOf_6 rfl rfl ?_
  refine xm_E_s r_X10_chanceOf_7 rfl rfl ?_
  refine xm_E_s r_X10_chanceOf_8 rfl (xm_T_gi rfl q0 rfl (Or.inl rfl)) ?_
  refine xm_E_s r_X10_chanceOf_9 rfl rfl ?_
  refine xm_E_f q1 ?_
  refine xm_E_s r_X10_chanceOf_10 rfl rfl ?_
  refine xm_E_s r_X10_chanceOf_11 rfl rfl ?_
  refine xm_E_cv [.ref l1, .int l5] [] r_X10_chanceOf_12 rfl rfl (Nat.le_of_ble_eq_true rfl) (xm_rc q0 (by decide)) rfl q2 ?_
  refine xm_E_s r_X10_chanceOf_13 rfl rfl ?_
  refine xm_E_s (ls1 := [some (.ref l0), some (.ref l1), some (.int l2), some (.int l3), some (.int l4), some (.int l5), some (.int r0.toInt32)]) r_X10_chanceOf_14 rfl rfl ?_
  refine xm_E_s r_X10_chanceOf_15 rfl rfl ?_
  refine xm_E_s r_X10_chanceOf_16 rfl rfl ?_
  refine xm_E_s r_X10_chanceOf_17 rfl (xm_T_gr rfl q3 rfl rfl q4) ?_
  refine xm_E_s r_X10_chanceOf_18 rfl (xm_T_gr rfl q5 rfl rfl q6) ?_
  refine xm_E_s r_X10_chanceOf_19 rfl rfl ?_
  refine xm_E_cv [.ref v2, .int r0.toInt32] [.int l3] r_X10_chanceOf_20 rfl rfl (Nat.le_of_ble_eq_true rfl) (xm_rc q8 (by decide)) rfl q7 ?_
  refine xm_E_cs [.int r3] [.int l3] r_X10_chanceOf_21 rfl rfl rfl (Nat.le_of_ble_eq_true rfl) rfl q9 ?_
  refine xm_E_s r_X10_chanceOf_22 rfl rfl ?_
  refine xm_E_t q10 ?_
  refine xm_E_s r_X10_chanceOf_25 rfl rfl ?_
  refine xm_E_s r_X10_chanceOf_26 rfl rfl ?_
  refine xm_E_s (ls1 := [some (.ref l0), some (.ref l1), some (.int l2), some (.int (l3 + (0 : Int32))), some (.int l4), some (.int l5), some (.int r0.toInt32)]) r_X10_chanceOf_27 rfl rfl ?_
  refine xm_E_s r_X10_chanceOf_28 rfl rfl ?_
  refine xm_E_s r_X10_chanceOf_29 rfl rfl ?_
  refine xm_E_s r_X10_chanceOf_30 rfl (xm_T_gr rfl q3 rfl rfl q11) ?_
  refine xm_E_s r_X10_chanceOf_31 rfl (xm_T_gr rfl q12 rfl rfl q13) ?_
  refine xm_E_s r_X10_chanceOf_32 rfl rfl ?_
  refine xm_E_cv [.ref v6, .int r0.toInt32] [.int l4] r_X10_chanceOf_33 rfl rfl (Nat.le_of_ble_eq_true rfl) (xm_rc q15 (by decide)) rfl q14 ?_
  refine xm_E_cs [.int r7] [.int l4] r_X10_chanceOf_34 rfl rfl rfl (Nat.le_of_ble_eq_true rfl) rfl q16 ?_
  refine xm_E_s r_X10_chanceOf_35 rfl rfl ?_
  refine xm_E_t q17 ?_
  refine xm_E_s r_X10_chanceOf_38 rfl rfl ?_
  refine xm_E_s r_X10_chanceOf_39 rfl rfl ?_
  refine xm_E_s (ls1 := [some (.ref l0), some (.ref l1), some (.int l2), some (.int (l3 + (0 : Int32))), some (.int (l4 + (0 : Int32))), some (.int l5), some (.int r0.toInt32)]) r_X10_chanceOf_40 rfl rfl ?_
  refine xm_E_s (ls1 := [some (.ref l0), some (.ref l1), some (.int l2), some (.int (l3 + (0 : Int32))), some (.int (l4 + (0 : Int32))), some (.int (l5 + (1 : Int32))), some (.int r0.toInt32)]) r_X10_chanceOf_41 rfl rfl ?_
  refine xm_E_s r_X10_chanceOf_42 rfl rfl ?_
  exact K
theorem p_X10_chanceOf_6_3 {X : xm_X} {P : List xm_M} {d : Nat} {h : xm_H} {l0 : Nat} {l1 : Nat} {l2 : Int32} {l3 : Int32} {l4 : Int32} {l5 : Int32} {l6 : Option Value} {h0 : xm_H} {r0 : Int64} {v1 : Nat} {v2 : Nat} {h3 : xm_H} {r3 : Int32} {h4 : xm_H} {r4 : Int32} {v5 : Nat} {v6 : Nat} {h7 : xm_H} {r7 : Int32} {h8 : xm_H} {r8 : Int32} {ro : Option Value} {ho : xm_H} (q0 : X.1[l1]? = some (.inr 2)) (q1 : ¬ (h.1 l1 3 ≤ l5)) (q2 : xm_V X P d 70 [.ref l1, .int l5] h (some (.long r0)) h0) (q3 : X.1[l0]? = some (.inr 9)) (q4 : h0.2.2 l0 1 = some v1) (q5 : X.1[v1]? = some (.inr 8)) (q6 : h0.2.2 v1 0 = some v2) (q7 : xm_V X P d 58 [.ref v2, .int r0.toInt32] h0 (some (.int r3)) h3) (q8 : X.1[v2]? = some (.inr 0)) (q9 : xm_V X P d 135 [.int r3] h3 (some (.int r4)) h4) (q10 : r4 = (0 : Int32)) (q11 : h4.2.2 l0 1 = some v5) (q12 : X.1[v5]? = some (.inr 8)) (q13 : h4.2.2 v5 0 = some v6) (q14 : xm_V X P d 59 [.ref v6, .int r0.toInt32] h4 (some (.int r7)) h7) (q15 : X.1[v6]? = some (.inr 0)) (q16 : xm_V X P d 135 [.int r7] h7 (some (.int r8)) h8) (q17 : ¬ (r8 = (0 : Int32))) (K : xm_E X P d co_X10_chanceOf 6 [some (.ref l0), some (.ref l1), some (.int l2), some (.int (l3 + (0 : Int32))), some (.int (l4 + (1 : Int32))), some (.int (l5 + (1 : Int32))), some (.int r0.toInt32)] [] h8 ro ho) : xm_E X P d co_X10_chanceOf 6 [some (.ref l0), some (.ref l1), some (.int l2), some (.int l3), some (.int l4), some (.int l5), l6] [] h ro ho := by
  refine xm_E_s r_X10_chanceOf_6 rfl rfl ?_
  refine xm_E_s r_X10_chanceOf_7 rfl rfl ?_
  refine xm_E_s r_X10_chanceOf_8 rfl (xm_T_gi rfl q0 rfl (Or.inl rfl)) ?_
  refine xm_E_s r_X10_chanceOf_9 rfl rfl ?_
  refine xm_E_f q1 ?_
  refine xm_E_s r_X10_chanceOf_10 rfl rfl ?_
  refine xm_E_s r_X10_chanceOf_11 rfl rfl ?_
  refine xm_E_cv [.ref l1, .int l5] [] r_X10_chanceOf_12 rfl rfl (Nat.le_of_ble_eq_true rfl) (xm_rc q0 (by decide)) rfl q2 ?_
  refine xm_E_s r_X10_chanceOf_13 rfl rfl ?_
  refine xm_E_s (ls1 := [some (.ref l0), some (.ref l1), some (.int l2), some (.int l3), some (.int l4), some (.int l5), some (.int r0.toInt32)]) r_X10_chanceOf_14 rfl rfl ?_
  refine xm_E_s r_X10_chanceOf_15 rfl rfl ?_
  refine xm_E_s r_X10_chanceOf_16 rfl rfl ?_
  refine xm_E_s r_X10_chanceOf_17 rfl (xm_T_gr rfl q3 rfl rfl q4) ?_
  refine xm_E_s r_X10_chanceOf_18 rfl (xm_T_gr rfl q5 rfl rfl q6) ?_
  refine xm_E_s r_X10_chanceOf_19 rfl rfl ?_
  refine xm_E_cv [.ref v2, .int r0.toInt32] [.int l3] r_X10_chanceOf_20 rfl rfl (Nat.le_of_ble_eq_true rfl) (xm_rc q8 (by decide)) rfl q7 ?_
  refine xm_E_cs [.int r3] [.int l3] r_X10_chanceOf_21 rfl rfl rfl (Nat.le_of_ble_eq_true rfl) rfl q9 ?_
  refine xm_E_s r_X10_chanceOf_22 rfl rfl ?_
  refine xm_E_t q10 ?_
  refine xm_E_s r_X10_chanceOf_25 rfl rfl ?_
  refine xm_E_s r_X10_chanceOf_26 rfl rfl ?_
  refine xm_E_s (ls1 := [some (.ref l0), some (.ref l1), some (.int l2), some (.int (l3 + (0 : Int32))), some (.int l4), some (.int l5), some (.int r0.toInt32)]) r_X10_chanceOf_27 rfl rfl ?_
  refine xm_E_s r_X10_chanceOf_28 rfl rfl ?_
  refine xm_E_s r_X10_chanceOf_29 rfl rfl ?_
  refine xm_E_s r_X10_chanceOf_30 rfl (xm_T_gr rfl q3 rfl rfl q11) ?_
  refine xm_E_s r_X10_chanceOf_31 rfl (xm_T_gr rfl q12 rfl rfl q13) ?_
  refine xm_E_s r_X10_chanceOf_32 rfl rfl ?_
  refine xm_E_cv [.ref v6, .int r0.toInt32] [.int l4] r_X10_chanceOf_33 rfl rfl (Nat.le_of_ble_eq_true rfl) (xm_rc q15 (by decide)) rfl q14 ?_
  refine xm_E_cs [.int r7] [.int l4] r_X10_chanceOf_34 rfl rfl rfl (Nat.le_of_ble_eq_true rfl) rfl q16 ?_
  refine xm_E_s r_X10_chanceOf_35 rfl rfl ?_
  refine xm_E_f q17 ?_
  refine xm_E_s r_X10_chanceOf_36 rfl rfl ?_
  refine xm_E_s r_X10_chanceOf_37 rfl rfl ?_
  refine xm_E_s r_X10_chanceOf_39 rfl rfl ?_
  refine xm_E_s (ls1 := [some (.ref l0), some (.ref l1), some (.int l2), some (.int (l3 + (0 : Int32))), some (.int (l4 + (1 : Int32))), some (.int l5), some (.int r0.toInt32)]) r_X10_chanceOf_40 rfl rfl ?_
  refine xm_E_s (ls1 := [some (.ref l0), some (.ref l1), some (.int l2), some (.int (l3 + (0 : Int32))), some (.int (l4 + (1 : Int32))), some (.int (l5 + (1 : Int32))), some (.int r0.toInt32)]) r_X10_chanceOf_41 rfl rfl ?_
  refine xm_E_s r_X10_chanceOf_42 rfl rfl ?_
  exact K
theorem p_X10_chanceOf_6_4 {X : xm_X} {P : List xm_M} {d : Nat} {h : xm_H} {l0 : Nat} {l1 : Nat} {l2 : Int32} {l3 : Int32} {l4 : Int32} {l5 : Int32} {l6 : Option Value} {h0 : xm_H} {r0 : Int64} {v1 : Nat} {v2 : Nat} {h3 : xm_H} {r3 : Int32} {h4 : xm_H} {r4 : Int32} {v5 : Nat} {v6 : Nat} {h7 : xm_H} {r7 : Int32} {h8 : xm_H} {r8 : Int32} {ro : Option Value} {ho : xm_H} (q0 : X.1[l1]? = some (.inr 2)) (q1 : ¬ (h.1 l1 3 ≤ l5)) (q2 : xm_V X P d 70 [.ref l1, .int l5] h (some (.long r0)) h0) (q3 : X.1[l0]? = some (.inr 9)) (q4 : h0.2.2 l0 1 = some v1) (q5 : X.1[v1]? = some (.inr 8)) (q6 : h0.2.2 v1 0 = some v2) (q7 : xm_V X P d 58 [.ref v2, .int r0.toInt32] h0 (some (.int r3)) h3) (q8 : X.1[v2]? = some (.inr 0)) (q9 : xm_V X P d 135 [.int r3] h3 (some (.int r4)) h4) (q10 : ¬ (r4 = (0 : Int32))) (q11 : h4.2.2 l0 1 = some v5) (q12 : X.1[v5]? = some (.inr 8)) (q13 : h4.2.2 v5 0 = some v6) (q14 : xm_V X P d 59 [.ref v6, .int r0.toInt32] h4 (some (.int r7)) h7) (q15 : X.1[v6]? = some (.inr 0)) (q16 : xm_V X P d 135 [.int r7] h7 (some (.int r8)) h8) (q17 : r8 = (0 : Int32)) (K : xm_E X P d co_X10_chanceOf 6 [some (.ref l0), some (.ref l1), some (.int l2), some (.int (l3 + (1 : Int32))), some (.int (l4 + (0 : Int32))), some (.int (l5 + (1 : Int32))), some (.int r0.toInt32)] [] h8 ro ho) : xm_E X P d co_X10_chanceOf 6 [some (.ref l0), some (.ref l1), some (.int l2), some (.int l3), some (.int l4), some (.int l5), l6] [] h ro ho := by
  refine xm_E_s r_X10_chanceOf_6 rfl rfl ?_
  refine xm_E_s r_X10_chanceOf_7 rfl rfl ?_
  refine xm_E_s r_X10_chanceOf_8 rfl (xm_T_gi rfl q0 rfl (Or.inl rfl)) ?_
  refine xm_E_s r_X10_chanceOf_9 rfl rfl ?_
  refine xm_E_f q1 ?_
  refine xm_E_s r_X10_chanceOf_10 rfl rfl ?_
  refine xm_E_s r_X10_chanceOf_11 rfl rfl ?_
  refine xm_E_cv [.ref l1, .int l5] [] r_X10_chanceOf_12 rfl rfl (Nat.le_of_ble_eq_true rfl) (xm_rc q0 (by decide)) rfl q2 ?_
  refine xm_E_s r_X10_chanceOf_13 rfl rfl ?_
  refine xm_E_s (ls1 := [some (.ref l0), some (.ref l1), some (.int l2), some (.int l3), some (.int l4), some (.int l5), some (.int r0.toInt32)]) r_X10_chanceOf_14 rfl rfl ?_
  refine xm_E_s r_X10_chanceOf_15 rfl rfl ?_
  refine xm_E_s r_X10_chanceOf_16 rfl rfl ?_
  refine xm_E_s r_X10_chanceOf_17 rfl (xm_T_gr rfl q3 rfl rfl q4) ?_
  refine xm_E_s r_X10_chanceOf_18 rfl (xm_T_gr rfl q5 rfl rfl q6) ?_
  refine xm_E_s r_X10_chanceOf_19 rfl rfl ?_
  refine xm_E_cv [.ref v2, .int r0.toInt32] [.int l3] r_X10_chanceOf_20 rfl rfl (Nat.le_of_ble_eq_true rfl) (xm_rc q8 (by decide)) rfl q7 ?_
  refine xm_E_cs [.int r3] [.int l3] r_X10_chanceOf_21 rfl rfl rfl (Nat.le_of_ble_eq_true rfl) rfl q9 ?_
  refine xm_E_s r_X10_chanceOf_22 rfl rfl ?_
  refine xm_E_f q10 ?_
  refine xm_E_s r_X10_chanceOf_23 rfl rfl ?_
  refine xm_E_s r_X10_chanceOf_24 rfl rfl ?_
  refine xm_E_s r_X10_chanceOf_26 rfl rfl ?_
  refine xm_E_s (ls1 := [some (.ref l0), some (.ref l1), some (.int l2), some (.int (l3 + (1 : Int32))), some (.int l4), some (.int l5), some (.int r0.toInt32)]) r_X10_chanceOf_27 rfl rfl ?_
  refine xm_E_s r_X10_chanceOf_28 rfl rfl ?_
  refine xm_E_s r_X10_chanceOf_29 rfl rfl ?_
  refine xm_E_s r_X10_chanceOf_30 rfl (xm_T_gr rfl q3 rfl rfl q11) ?_
  refine xm_E_s r_X10_chanceOf_31 rfl (xm_T_gr rfl q12 rfl rfl q13) ?_
  refine xm_E_s r_X10_chanceOf_32 rfl rfl ?_
  refine xm_E_cv [.ref v6, .int r0.toInt32] [.int l4] r_X10_chanceOf_33 rfl rfl (Nat.le_of_ble_eq_true rfl) (xm_rc q15 (by decide)) rfl q14 ?_
  refine xm_E_cs [.int r7] [.int l4] r_X10_chanceOf_34 rfl rfl rfl (Nat.le_of_ble_eq_true rfl) rfl q16 ?_
  refine xm_E_s r_X10_chanceOf_35 rfl rfl ?_
  refine xm_E_t q17 ?_
  refine xm_E_s r_X10_chanceOf_38 rfl rfl ?_
  refine xm_E_s r_X10_chanceOf_39 rfl rfl ?_
  refine xm_E_s (ls1 := [some (.ref l0), some (.ref l1), some (.int l2), some (.int (l3 + (1 : Int32))), some (.int (l4 + (0 : Int32))), some (.int l5), some (.int r0.toInt32)]) r_X10_chanceOf_40 rfl rfl ?_
  refine xm_E_s (ls1 := [some (.ref l0), some (.ref l1), some (.int l2), some (.int (l3 + (1 : Int32))), some (.int (l4 + (0 : Int32))), some (.int (l5 + (1 : Int32))), some (.int r0.toInt32)]) r_X10_chanceOf_41 rfl rfl ?_
  refine xm_E_s r_X10_chanceOf_42 rfl rfl ?_
  exact K
theorem p_X10_chanceOf_6_5 {X : xm_X} {P : List xm_M} {d : Nat} {h : xm_H} {l0 : Nat} {l1 : Nat} {l2 : Int32} {l3 : Int32} {l4 : Int32} {l5 : Int32} {l6 : Option Value} {h0 : xm_H} {r0 : Int64} {v1 : Nat} {v2 : Nat} {h3 : xm_H} {r3 : Int32} {h4 : xm_H} {r4 : Int32} {v5 : Nat} {v6 : Nat} {h7 : xm_H} {r7 : Int32} {h8 : xm_H} {r8 : Int32} {ro : Option Value} {ho : xm_H} (q0 : X.1[l1]? = some (.inr 2)) (q1 : ¬ (h.1 l1 3 ≤ l5)) (q2 : xm_V X P d 70 [.ref l1, .int l5] h (some (.long r0)) h0) (q3 : X.1[l0]? = some (.inr 9)) (q4 : h0.2.2 l0 1 = some v1) (q5 : X.1[v1]? = some (.inr 8)) (q6 : h0.2.2 v1 0 = some v2) (q7 : xm_V X P d 58 [.ref v2, .int r0.toInt32] h0 (some (.int r3)) h3) (q8 : X.1[v2]? = some (.inr 0)) (q9 : xm_V X P d 135 [.int r3] h3 (some (.int r4)) h4) (q10 : ¬ (r4 = (0 : Int32))) (q11 : h4.2.2 l0 1 = some v5) (q12 : X.1[v5]? = some (.inr 8)) (q13 : h4.2.2 v5 0 = some v6) (q14 : xm_V X P d 59 [.ref v6, .int r0.toInt32] h4 (some (.int r7)) h7) (q15 : X.1[v6]? = some (.inr 0)) (q16 : xm_V X P d 135 [.int r7] h7 (some (.int r8)) h8) (q17 : ¬ (r8 = (0 : Int32))) (K : xm_E X P d co_X10_chanceOf 6 [some (.ref l0), some (.ref l1), some (.int l2), some (.int (l3 + (1 : Int32))), some (.int (l4 + (1 : Int32))), some (.int (l5 + (1 : Int32))), some (.int r0.toInt32)] [] h8 ro ho) : xm_E X P d co_X10_chanceOf 6 [some (.ref l0), some (.ref l1), some (.int l2), some (.int l3), some (.int l4), some (.int l5), l6] [] h ro ho := by
  refine xm_E_s r_X10_chanceOf_6 rfl rfl ?_
  refine xm_E_s r_X10_chanceOf_7 rfl rfl ?_
  refine xm_E_s r_X10_chanceOf_8 rfl (xm_T_gi rfl q0 rfl (Or.inl rfl)) ?_
  refine xm_E_s r_X10_chanceOf_9 rfl rfl ?_
  refine xm_E_f q1 ?_
  refine xm_E_s r_X10_chanceOf_10 rfl rfl ?_
  refine xm_E_s r_X10_chanceOf_11 rfl rfl ?_
  refine xm_E_cv [.ref l1, .int l5] [] r_X10_chanceOf_12 rfl rfl (Nat.le_of_ble_eq_true rfl) (xm_rc q0 (by decide)) rfl q2 ?_
  refine xm_E_s r_X10_chanceOf_13 rfl rfl ?_
  refine xm_E_s (ls1 := [some (.ref l0), some (.ref l1), some (.int l2), some (.int l3), some (.int l4), some (.int l5), some (.int r0.toInt32)]) r_X10_chanceOf_14 rfl rfl ?_
  refine xm_E_s r_X10_chanceOf_15 rfl rfl ?_
  refine xm_E_s r_X10_chanceOf_16 rfl rfl ?_
  refine xm_E_s r_X10_chanceOf_17 rfl (xm_T_gr rfl q3 rfl rfl q4) ?_
  refine xm_E_s r_X10_chanceOf_18 rfl (xm_T_gr rfl q5 rfl rfl q6) ?_
  refine xm_E_s r_X10_chanceOf_19 rfl rfl ?_
  refine xm_E_cv [.ref v2, .int r0.toInt32] [.int l3] r_X10_chanceOf_20 rfl rfl (Nat.le_of_ble_eq_true rfl) (xm_rc q8 (by decide)) rfl q7 ?_
  refine xm_E_cs [.int r3] [.int l3] r_X10_chanceOf_21 rfl rfl rfl (Nat.le_of_ble_eq_true rfl) rfl q9 ?_
  refine xm_E_s r_X10_chanceOf_22 rfl rfl ?_
  refine xm_E_f q10 ?_
  refine xm_E_s r_X10_chanceOf_23 rfl rfl ?_
  refine xm_E_s r_X10_chanceOf_24 rfl rfl ?_
  refine xm_E_s r_X10_chanceOf_26 rfl rfl ?_
  refine xm_E_s (ls1 := [some (.ref l0), some (.ref l1), some (.int l2), some (.int (l3 + (1 : Int32))), some (.int l4), some (.int l5), some (.int r0.toInt32)]) r_X10_chanceOf_27 rfl rfl ?_
  refine xm_E_s r_X10_chanceOf_28 rfl rfl ?_
  refine xm_E_s r_X10_chanceOf_29 rfl rfl ?_
  refine xm_E_s r_X10_chanceOf_30 rfl (xm_T_gr rfl q3 rfl rfl q11) ?_
  refine xm_E_s r_X10_chanceOf_31 rfl (xm_T_gr rfl q12 rfl rfl q13) ?_
  refine xm_E_s r_X10_chanceOf_32 rfl rfl ?_
  refine xm_E_cv [.ref v6, .int r0.toInt32] [.int l4] r_X10_chanceOf_33 rfl rfl (Nat.le_of_ble_eq_true rfl) (xm_rc q15 (by decide)) rfl q14 ?_
  refine xm_E_cs [.int r7] [.int l4] r_X10_chanceOf_34 rfl rfl rfl (Nat.le_of_ble_eq_true rfl) rfl q16 ?_
  refine xm_E_s r_X10_chanceOf_35 rfl rfl ?_
  refine xm_E_f q17 ?_
  refine xm_E_s r_X10_chanceOf_36 rfl rfl ?_
  refine xm_E_s r_X10_chanceOf_37 rfl rfl ?_
  refine xm_E_s r_X10_chanceOf_39 rfl rfl ?_
  refine xm_E_s (ls1 := [some (.ref l0), some (.ref l1), some (.int l2), some (.int (l3 + (1 : Int32))), some (.int (l4 + (1 : Int32))), some (.int l5), some (.int r0.toInt32)]) r_X10_chanceOf_40 rfl rfl ?_
  refine xm_E_s (ls1 := [some (.ref l0), some (.ref l1), some (.int l2), some (.int (l3 + (1 : Int32))), some (.int (l4 + (1 : Int32))), some (.int (l5 + (1 : Int32))), some (.int r0.toInt32)]) r_X10_chanceOf_41 rfl rfl ?_
  refine xm_E_s r_X10_chanceOf_42 rfl rfl ?_
  exact K
theorem r_X10_power_0 : co_X10_power[0]? = some ((0, .lconst 1, 0, 0, 0, 0, 0, 1, []) : xm_I) := rfl
theorem r_X10_power_1 : co_X10_power[1]? = some ((1, .lstore_n 3, 0, 0, 0, 0, 0, 0, []) : xm_I) := rfl
theorem r_X10_power_2 : co_X10_power[2]? = some ((2, .iconst 0, 0, 0, 0, 0, 0, 0, []) : xm_I) := rfl
theorem r_X10_power_3 : co_X10_power[3]? = some ((3, .istore 5, 0, 0, 0, 0, 0, 0, []) : xm_I) := rfl
theorem r_X10_power_4 : co_X10_power[4]? = some ((5, .iload 5, 0, 0, 0, 0, 0, 0, []) : xm_I) := rfl
theorem r_X10_power_5 : co_X10_power[5]? = some ((7, .iload_n 2, 0, 0, 0, 0, 0, 0, []) : xm_I) := rfl
theorem r_X10_power_6 : co_X10_power[6]? = some ((8, .if_icmp .ge 13, 0, 0, 13, 0, 0, 0, []) : xm_I) := rfl
theorem r_X10_power_7 : co_X10_power[7]? = some ((11, .lload_n 3, 0, 0, 0, 0, 0, 0, []) : xm_I) := rfl
theorem r_X10_power_8 : co_X10_power[8]? = some ((12, .lload_n 0, 0, 0, 0, 0, 0, 0, []) : xm_I) := rfl
theorem r_X10_power_9 : co_X10_power[9]? = some ((13, .lmul, 0, 0, 0, 0, 0, 0, []) : xm_I) := rfl
theorem r_X10_power_10 : co_X10_power[10]? = some ((14, .lstore_n 3, 0, 0, 0, 0, 0, 0, []) : xm_I) := rfl
theorem r_X10_power_11 : co_X10_power[11]? = some ((15, .iinc 5 1, 0, 0, 0, 0, 1, 0, []) : xm_I) := rfl
theorem r_X10_power_12 : co_X10_power[12]? = some ((18, .goto (-13), 0, 0, 4, 0, 0, 0, []) : xm_I) := rfl
theorem r_X10_power_13 : co_X10_power[13]? = some ((21, .lload_n 3, 0, 0, 0, 0, 0, 0, []) : xm_I) := rfl
theorem r_X10_power_14 : co_X10_power[14]? = some ((22, .lreturn, 0, 0, 0, 0, 0, 0, []) : xm_I) := rfl
theorem p_X10_power_0_0 {X : xm_X} {P : List xm_M} {d : Nat} {h : xm_H} {l0 : Int64} {l2 : Int32} {ro : Option Value} {ho : xm_H}  (K : xm_E X P d co_X10_power 4 [some (.long l0), none, some (.int l2), some (.long (1 : Int64)), none, some (.int (0 : Int32))] [] h ro ho) : xm_E X P d co_X10_power 0 [some (.long l0), none, some (.int l2), none, none, none] [] h ro ho := by
  refine xm_E_s r_X10_power_0 rfl rfl ?_
  refine xm_E_s (ls1 := [some (.long l0), none, some (.int l2), some (.long (1 : Int64)), none, none]) r_X10_power_1 rfl rfl ?_
  refine xm_E_s r_X10_power_2 rfl rfl ?_
  refine xm_E_s (ls1 := [some (.long l0), none, some (.int l2), some (.long (1 : Int64)), none, some (.int (0 : Int32))]) r_X10_power_3 rfl rfl ?_
  exact K
theorem p_X10_power_4_0 {X : xm_X} {P : List xm_M} {d : Nat} {h : xm_H} {l0 : Int64} {l2 : Int32} {l3 : Int64} {l5 : Int32} (q0 : l2 ≤ l5) : xm_E X P d co_X10_power 4 [some (.long l0), none, some (.int l2), some (.long l3), none, some (.int l5)] [] h (some (.long l3)) h := by
  refine xm_E_s r_X10_power_4 rfl rfl ?_
  refine xm_E_s r_X10_power_5 rfl rfl ?_
  refine xm_E_s r_X10_power_6 rfl rfl ?_
  refine xm_E_t q0 ?_
  refine xm_E_s r_X10_power_13 rfl rfl ?_
  exact xm_E_lret r_X10_power_14 rfl
theorem p_X10_power_4_1 {X : xm_X} {P : List xm_M} {d : Nat} {h : xm_H} {l0 : Int64} {l2 : Int32} {l3 : Int64} {l5 : Int32} {ro : Option Value} {ho : xm_H} (q0 : ¬ (l2 ≤ l5)) (K : xm_E X P d co_X10_power 4 [some (.long l0), none, some (.int l2), some (.long (l3 * l0)), none, some (.int (l5 + (1 : Int32)))] [] h ro ho) : xm_E X P d co_X10_power 4 [some (.long l0), none, some (.int l2), some (.long l3), none, some (.int l5)] [] h ro ho := by
  refine xm_E_s r_X10_power_4 rfl rfl ?_
  refine xm_E_s r_X10_power_5 rfl rfl ?_
  refine xm_E_s r_X10_power_6 rfl rfl ?_
  refine xm_E_f q0 ?_
  refine xm_E_s r_X10_power_7 rfl rfl ?_
  refine xm_E_s r_X10_power_8 rfl rfl ?_
  refine xm_E_s r_X10_power_9 rfl rfl ?_
  refine xm_E_s (ls1 := [some (.long l0), none, some (.int l2), some (.long (l3 * l0)), none, some (.int l5)]) r_X10_power_10 rfl rfl ?_
  refine xm_E_s (ls1 := [some (.long l0), none, some (.int l2), some (.long (l3 * l0)), none, some (.int (l5 + (1 : Int32)))]) r_X10_power_11 rfl rfl ?_
  refine xm_E_s r_X10_power_12 rfl rfl ?_
  exact K
theorem r_X10_out_0 : co_X10_out[0]? = some ((0, .aload_n 0, 0, 0, 0, 0, 0, 0, []) : xm_I) := rfl
theorem r_X10_out_1 : co_X10_out[1]? = some ((1, .getfield 19, 482, 9, 1, 2, 0, 0, []) : xm_I) := rfl
theorem r_X10_out_2 : co_X10_out[2]? = some ((4, .invokevirtual 113, 696, 36, 1, 8, 0, 0, []) : xm_I) := rfl
theorem r_X10_out_3 : co_X10_out[3]? = some ((7, .ifCond .ne 10, 0, 0, 7, 0, 0, 0, []) : xm_I) := rfl
theorem r_X10_out_4 : co_X10_out[4]? = some ((10, .iload_n 1, 0, 0, 0, 0, 0, 0, []) : xm_I) := rfl
theorem r_X10_out_5 : co_X10_out[5]? = some ((11, .invokestatic 261, 1094, 127, 1, 0, 0, 0, []) : xm_I) := rfl
theorem r_X10_out_6 : co_X10_out[6]? = some ((14, .ifCond .ne 6, 0, 0, 9, 0, 0, 0, []) : xm_I) := rfl
theorem r_X10_out_7 : co_X10_out[7]? = some ((17, .bipush (-2), 0, 0, 0, 0, (-2), 0, []) : xm_I) := rfl
theorem r_X10_out_8 : co_X10_out[8]? = some ((19, .ireturn, 0, 0, 0, 0, 0, 0, []) : xm_I) := rfl
theorem r_X10_out_9 : co_X10_out[9]? = some ((20, .aload_n 0, 0, 0, 0, 0, 0, 0, []) : xm_I) := rfl
theorem r_X10_out_10 : co_X10_out[10]? = some ((21, .getfield 19, 482, 9, 1, 2, 0, 0, []) : xm_I) := rfl
theorem r_X10_out_11 : co_X10_out[11]? = some ((24, .getfield 116, 311, 8, 3, 0, 0, 0, []) : xm_I) := rfl
theorem r_X10_out_12 : co_X10_out[12]? = some ((27, .invokestatic 298, 716, 42, 1, 0, 0, 0, []) : xm_I) := rfl
theorem r_X10_out_13 : co_X10_out[13]? = some ((30, .invokestatic 301, 1170, 0, 0, 4, 0, 0, []) : xm_I) := rfl
theorem r_X10_out_14 : co_X10_out[14]? = some ((33, .istore_n 2, 0, 0, 0, 0, 0, 0, []) : xm_I) := rfl
theorem r_X10_out_15 : co_X10_out[15]? = some ((34, .iload_n 1, 0, 0, 0, 0, 0, 0, []) : xm_I) := rfl
theorem r_X10_out_16 : co_X10_out[16]? = some ((35, .ifCond .ne 7, 0, 0, 19, 0, 0, 0, []) : xm_I) := rfl
theorem r_X10_out_17 : co_X10_out[17]? = some ((38, .iload_n 2, 0, 0, 0, 0, 0, 0, []) : xm_I) := rfl
theorem r_X10_out_18 : co_X10_out[18]? = some ((39, .goto 17, 0, 0, 26, 0, 0, 0, []) : xm_I) := rfl
theorem r_X10_out_19 : co_X10_out[19]? = some ((42, .iload_n 2, 0, 0, 0, 0, 0, 0, []) : xm_I) := rfl
theorem r_X10_out_20 : co_X10_out[20]? = some ((43, .aload_n 0, 0, 0, 0, 0, 0, 0, []) : xm_I) := rfl
theorem r_X10_out_21 : co_X10_out[21]? = some ((44, .getfield 19, 482, 9, 1, 2, 0, 0, []) : xm_I) := rfl
theorem r_X10_out_22 : co_X10_out[22]? = some ((47, .getfield 103, 305, 8, 0, 2, 0, 0, []) : xm_I) := rfl
theorem r_X10_out_23 : co_X10_out[23]? = some ((50, .bipush 9, 0, 0, 0, 0, 9, 0, []) : xm_I) := rfl
theorem r_X10_out_24 : co_X10_out[24]? = some ((52, .invokevirtual 142, 776, 54, 2, 0, 0, 0, []) : xm_I) := rfl
theorem r_X10_out_25 : co_X10_out[25]? = some ((55, .imul, 0, 0, 0, 0, 0, 0, []) : xm_I) := rfl
theorem r_X10_out_26 : co_X10_out[26]? = some ((56, .ireturn, 0, 0, 0, 0, 0, 0, []) : xm_I) := rfl
theorem p_X10_out_0_0 {X : xm_X} {P : List xm_M} {d : Nat} {h : xm_H} {l0 : Nat} {l1 : Int32} {v0 : Nat} {h1 : xm_H} {r1 : Int32} {h2 : xm_H} {r2 : Int32} (q0 : X.1[l0]? = some (.inr 9)) (q1 : h.2.2 l0 1 = some v0) (q2 : xm_V X P d 36 [.ref v0] h (some (.int r1)) h1) (q3 : X.1[v0]? = some (.inr 8)) (q4 : r1 = (0 : Int32)) (q5 : xm_V X P d 127 [.int l1] h1 (some (.int r2)) h2) (q6 : r2 = (0 : Int32)) : xm_E X P d co_X10_out 0 [some (.ref l0), some (.int l1), none] [] h (some (.int (-2 : Int32))) h2 := by
  refine xm_E_s r_X10_out_0 rfl rfl ?_
  refine xm_E_s r_X10_out_1 rfl (xm_T_gr rfl q0 rfl rfl q1) ?_
  refine xm_E_cv [.ref v0] [] r_X10_out_2 rfl rfl (Nat.le_of_ble_eq_true rfl) (xm_rc q3 (by decide)) rfl q2 ?_
  refine xm_E_s r_X10_out_3 rfl rfl ?_
  refine xm_E_t q4 ?_
  refine xm_E_s r_X10_out_4 rfl rfl ?_
  refine xm_E_cs [.int l1] [] r_X10_out_5 rfl rfl rfl (Nat.le_of_ble_eq_true rfl) rfl q5 ?_
  refine xm_E_s r_X10_out_6 rfl rfl ?_
  refine xm_E_t q6 ?_
  refine xm_E_s r_X10_out_7 rfl rfl ?_
  exact xm_E_iret r_X10_out_8 rfl rfl
theorem p_X10_out_0_1 {X : xm_X} {P : List xm_M} {d : Nat} {h : xm_H} {l0 : Nat} {l1 : Int32} {v0 : Nat} {h1 : xm_H} {r1 : Int32} {h2 : xm_H} {r2 : Int32} {v3 : Nat} {h4 : xm_H} {r4 : Int32} (q0 : X.1[l0]? = some (.inr 9)) (q1 : h.2.2 l0 1 = some v0) (q2 : xm_V X P d 36 [.ref v0] h (some (.int r1)) h1) (q3 : X.1[v0]? = some (.inr 8)) (q4 : r1 = (0 : Int32)) (q5 : xm_V X P d 127 [.int l1] h1 (some (.int r2)) h2) (q6 : ¬ (r2 = (0 : Int32))) (q7 : h2.2.2 l0 1 = some v3) (q8 : X.1[v3]? = some (.inr 8)) (q9 : xm_V X P d 42 [.int (h2.1 v3 3)] h2 (some (.int r4)) h4) (q10 : l1 = (0 : Int32)) : xm_E X P d co_X10_out 0 [some (.ref l0), some (.int l1), none] [] h (some (.int (if 0 ≤ r4 then r4 else 0 - r4))) h4 := by
  refine xm_E_s r_X10_out_0 rfl rfl ?_
  refine xm_E_s r_X10_out_1 rfl (xm_T_gr rfl q0 rfl rfl q1) ?_
  refine xm_E_cv [.ref v0] [] r_X10_out_2 rfl rfl (Nat.le_of_ble_eq_true rfl) (xm_rc q3 (by decide)) rfl q2 ?_
  refine xm_E_s r_X10_out_3 rfl rfl ?_
  refine xm_E_t q4 ?_
  refine xm_E_s r_X10_out_4 rfl rfl ?_
  refine xm_E_cs [.int l1] [] r_X10_out_5 rfl rfl rfl (Nat.le_of_ble_eq_true rfl) rfl q5 ?_
  refine xm_E_s r_X10_out_6 rfl rfl ?_
  refine xm_E_f q6 ?_
  refine xm_E_s r_X10_out_9 rfl rfl ?_
  refine xm_E_s r_X10_out_10 rfl (xm_T_gr rfl q0 rfl rfl q7) ?_
  refine xm_E_s r_X10_out_11 rfl (xm_T_gi rfl q8 rfl (Or.inl rfl)) ?_
  refine xm_E_cs [.int (h2.1 v3 3)] [] r_X10_out_12 rfl rfl rfl (Nat.le_of_ble_eq_true rfl) rfl q9 ?_
  refine xm_E_s r_X10_out_13 rfl rfl ?_
  refine xm_E_s (ls1 := [some (.ref l0), some (.int l1), some (.int (if 0 ≤ r4 then r4 else 0 - r4))]) r_X10_out_14 rfl rfl ?_
  refine xm_E_s r_X10_out_15 rfl rfl ?_
  refine xm_E_s r_X10_out_16 rfl rfl ?_
  refine xm_E_t q10 ?_
  refine xm_E_s r_X10_out_17 rfl rfl ?_
  refine xm_E_s r_X10_out_18 rfl rfl ?_
  exact xm_E_iret r_X10_out_26 rfl rfl
theorem p_X10_out_0_2 {X : xm_X} {P : List xm_M} {d : Nat} {h : xm_H} {l0 : Nat} {l1 : Int32} {v0 : Nat} {h1 : xm_H} {r1 : Int32} {h2 : xm_H} {r2 : Int32} {v3 : Nat} {h4 : xm_H} {r4 : Int32} {v5 : Nat} {v6 : Nat} {h7 : xm_H} {r7 : Int32} (q0 : X.1[l0]? = some (.inr 9)) (q1 : h.2.2 l0 1 = some v0) (q2 : xm_V X P d 36 [.ref v0] h (some (.int r1)) h1) (q3 : X.1[v0]? = some (.inr 8)) (q4 : r1 = (0 : Int32)) (q5 : xm_V X P d 127 [.int l1] h1 (some (.int r2)) h2) (q6 : ¬ (r2 = (0 : Int32))) (q7 : h2.2.2 l0 1 = some v3) (q8 : X.1[v3]? = some (.inr 8)) (q9 : xm_V X P d 42 [.int (h2.1 v3 3)] h2 (some (.int r4)) h4) (q10 : ¬ (l1 = (0 : Int32))) (q11 : h4.2.2 l0 1 = some v5) (q12 : X.1[v5]? = some (.inr 8)) (q13 : h4.2.2 v5 0 = some v6) (q14 : xm_V X P d 54 [.ref v6, .int (9 : Int32)] h4 (some (.int r7)) h7) (q15 : X.1[v6]? = some (.inr 0)) : xm_E X P d co_X10_out 0 [some (.ref l0), some (.int l1), none] [] h (some (.int ((if 0 ≤ r4 then r4 else 0 - r4) * r7))) h7 := by
  refine xm_E_s r_X10_out_0 rfl rfl ?_
  refine xm_E_s r_X10_out_1 rfl (xm_T_gr rfl q0 rfl rfl q1) ?_
  refine xm_E_cv [.ref v0] [] r_X10_out_2 rfl rfl (Nat.le_of_ble_eq_true rfl) (xm_rc q3 (by decide)) rfl q2 ?_
  refine xm_E_s r_X10_out_3 rfl rfl ?_
  refine xm_E_t q4 ?_
  refine xm_E_s r_X10_out_4 rfl rfl ?_
  refine xm_E_cs [.int l1] [] r_X10_out_5 rfl rfl rfl (Nat.le_of_ble_eq_true rfl) rfl q5 ?_
  refine xm_E_s r_X10_out_6 rfl rfl ?_
  refine xm_E_f q6 ?_
  refine xm_E_s r_X10_out_9 rfl rfl ?_
  refine xm_E_s r_X10_out_10 rfl (xm_T_gr rfl q0 rfl rfl q7) ?_
  refine xm_E_s r_X10_out_11 rfl (xm_T_gi rfl q8 rfl (Or.inl rfl)) ?_
  refine xm_E_cs [.int (h2.1 v3 3)] [] r_X10_out_12 rfl rfl rfl (Nat.le_of_ble_eq_true rfl) rfl q9 ?_
  refine xm_E_s r_X10_out_13 rfl rfl ?_
  refine xm_E_s (ls1 := [some (.ref l0), some (.int l1), some (.int (if 0 ≤ r4 then r4 else 0 - r4))]) r_X10_out_14 rfl rfl ?_
  refine xm_E_s r_X10_out_15 rfl rfl ?_
  refine xm_E_s r_X10_out_16 rfl rfl ?_
  refine xm_E_f q10 ?_
  refine xm_E_s r_X10_out_19 rfl rfl ?_
  refine xm_E_s r_X10_out_20 rfl rfl ?_
  refine xm_E_s r_X10_out_21 rfl (xm_T_gr rfl q0 rfl rfl q11) ?_
  refine xm_E_s r_X10_out_22 rfl (xm_T_gr rfl q12 rfl rfl q13) ?_
  refine xm_E_s r_X10_out_23 rfl rfl ?_
  refine xm_E_cv [.ref v6, .int (9 : Int32)] [.int (if 0 ≤ r4 then r4 else 0 - r4)] r_X10_out_24 rfl rfl (Nat.le_of_ble_eq_true rfl) (xm_rc q15 (by decide)) rfl q14 ?_
  refine xm_E_s r_X10_out_25 rfl rfl ?_
  exact xm_E_iret r_X10_out_26 rfl rfl
theorem p_X10_out_0_3 {X : xm_X} {P : List xm_M} {d : Nat} {h : xm_H} {l0 : Nat} {l1 : Int32} {v0 : Nat} {h1 : xm_H} {r1 : Int32} (q0 : X.1[l0]? = some (.inr 9)) (q1 : h.2.2 l0 1 = some v0) (q2 : xm_V X P d 36 [.ref v0] h (some (.int r1)) h1) (q3 : X.1[v0]? = some (.inr 8)) (q4 : ¬ (r1 = (0 : Int32))) : xm_E X P d co_X10_out 0 [some (.ref l0), some (.int l1), none] [] h (some (.int (-2 : Int32))) h1 := by
  refine xm_E_s r_X10_out_0 rfl rfl ?_
  refine xm_E_s r_X10_out_1 rfl (xm_T_gr rfl q0 rfl rfl q1) ?_
  refine xm_E_cv [.ref v0] [] r_X10_out_2 rfl rfl (Nat.le_of_ble_eq_true rfl) (xm_rc q3 (by decide)) rfl q2 ?_
  refine xm_E_s r_X10_out_3 rfl rfl ?_
  refine xm_E_f q4 ?_
  refine xm_E_s r_X10_out_7 rfl rfl ?_
  exact xm_E_iret r_X10_out_8 rfl rfl
theorem r_X10_fits_0 : co_X10_fits[0]? = some ((0, .aload_n 0, 0, 0, 0, 0, 0, 0, []) : xm_I) := rfl
theorem r_X10_fits_1 : co_X10_fits[1]? = some ((1, .getfield 19, 482, 9, 1, 2, 0, 0, []) : xm_I) := rfl
theorem r_X10_fits_2 : co_X10_fits[2]? = some ((4, .invokevirtual 113, 696, 36, 1, 8, 0, 0, []) : xm_I) := rfl
theorem r_X10_fits_3 : co_X10_fits[3]? = some ((7, .ifCond .eq 6, 0, 0, 6, 0, 0, 0, []) : xm_I) := rfl
theorem r_X10_fits_4 : co_X10_fits[4]? = some ((10, .bipush (-2), 0, 0, 0, 0, (-2), 0, []) : xm_I) := rfl
theorem r_X10_fits_5 : co_X10_fits[5]? = some ((12, .ireturn, 0, 0, 0, 0, 0, 0, []) : xm_I) := rfl
theorem r_X10_fits_6 : co_X10_fits[6]? = some ((13, .aload_n 0, 0, 0, 0, 0, 0, 0, []) : xm_I) := rfl
theorem r_X10_fits_7 : co_X10_fits[7]? = some ((14, .getfield 19, 482, 9, 1, 2, 0, 0, []) : xm_I) := rfl
theorem r_X10_fits_8 : co_X10_fits[8]? = some ((17, .getfield 103, 305, 8, 0, 2, 0, 0, []) : xm_I) := rfl
theorem r_X10_fits_9 : co_X10_fits[9]? = some ((20, .aload_n 0, 0, 0, 0, 0, 0, 0, []) : xm_I) := rfl
theorem r_X10_fits_10 : co_X10_fits[10]? = some ((21, .getfield 19, 482, 9, 1, 2, 0, 0, []) : xm_I) := rfl
theorem r_X10_fits_11 : co_X10_fits[11]? = some ((24, .getfield 116, 311, 8, 3, 0, 0, 0, []) : xm_I) := rfl
theorem r_X10_fits_12 : co_X10_fits[12]? = some ((27, .invokevirtual 304, 725, 44, 2, 0, 0, 0, []) : xm_I) := rfl
theorem r_X10_fits_13 : co_X10_fits[13]? = some ((30, .istore_n 1, 0, 0, 0, 0, 0, 0, []) : xm_I) := rfl
theorem r_X10_fits_14 : co_X10_fits[14]? = some ((31, .aload_n 0, 0, 0, 0, 0, 0, 0, []) : xm_I) := rfl
theorem r_X10_fits_15 : co_X10_fits[15]? = some ((32, .getfield 19, 482, 9, 1, 2, 0, 0, []) : xm_I) := rfl
theorem r_X10_fits_16 : co_X10_fits[16]? = some ((35, .getfield 103, 305, 8, 0, 2, 0, 0, []) : xm_I) := rfl
theorem r_X10_fits_17 : co_X10_fits[17]? = some ((38, .getfield 307, 237, 0, 9, 0, 0, 0, []) : xm_I) := rfl
theorem r_X10_fits_18 : co_X10_fits[18]? = some ((41, .ifCond .eq 7, 0, 0, 21, 0, 0, 0, []) : xm_I) := rfl
theorem r_X10_fits_19 : co_X10_fits[19]? = some ((44, .iload_n 1, 0, 0, 0, 0, 0, 0, []) : xm_I) := rfl
theorem r_X10_fits_20 : co_X10_fits[20]? = some ((45, .ifCond .gt 7, 0, 0, 23, 0, 0, 0, []) : xm_I) := rfl
theorem r_X10_fits_21 : co_X10_fits[21]? = some ((48, .iconst (-1), 0, 0, 0, 0, (-1), 0, []) : xm_I) := rfl
theorem r_X10_fits_22 : co_X10_fits[22]? = some ((49, .goto 15, 0, 0, 29, 0, 0, 0, []) : xm_I) := rfl
theorem r_X10_fits_23 : co_X10_fits[23]? = some ((52, .aload_n 0, 0, 0, 0, 0, 0, 0, []) : xm_I) := rfl
theorem r_X10_fits_24 : co_X10_fits[24]? = some ((53, .getfield 19, 482, 9, 1, 2, 0, 0, []) : xm_I) := rfl
theorem r_X10_fits_25 : co_X10_fits[25]? = some ((56, .getfield 103, 305, 8, 0, 2, 0, 0, []) : xm_I) := rfl
theorem r_X10_fits_26 : co_X10_fits[26]? = some ((59, .getfield 307, 237, 0, 9, 0, 0, 0, []) : xm_I) := rfl
theorem r_X10_fits_27 : co_X10_fits[27]? = some ((62, .iload_n 1, 0, 0, 0, 0, 0, 0, []) : xm_I) := rfl
theorem r_X10_fits_28 : co_X10_fits[28]? = some ((63, .idiv, 0, 0, 0, 0, 0, 0, []) : xm_I) := rfl
theorem r_X10_fits_29 : co_X10_fits[29]? = some ((64, .ireturn, 0, 0, 0, 0, 0, 0, []) : xm_I) := rfl
theorem p_X10_fits_0_0 {X : xm_X} {P : List xm_M} {d : Nat} {h : xm_H} {l0 : Nat} {v0 : Nat} {h1 : xm_H} {r1 : Int32} {v2 : Nat} {v3 : Nat} {h4 : xm_H} {r4 : Int32} {v5 : Nat} {v6 : Nat} (q0 : X.1[l0]? = some (.inr 9)) (q1 : h.2.2 l0 1 = some v0) (q2 : xm_V X P d 36 [.ref v0] h (some (.int r1)) h1) (q3 : X.1[v0]? = some (.inr 8)) (q4 : r1 = (0 : Int32)) (q5 : h1.2.2 l0 1 = some v2) (q6 : X.1[v2]? = some (.inr 8)) (q7 : h1.2.2 v2 0 = some v3) (q8 : xm_V X P d 44 [.ref v3, .int (h1.1 v2 3)] h1 (some (.int r4)) h4) (q9 : X.1[v3]? = some (.inr 0)) (q10 : h4.2.2 l0 1 = some v5) (q11 : X.1[v5]? = some (.inr 8)) (q12 : h4.2.2 v5 0 = some v6) (q13 : X.1[v6]? = some (.inr 0)) (q14 : h4.1 v6 9 = (0 : Int32)) : xm_E X P d co_X10_fits 0 [some (.ref l0), none] [] h (some (.int (-1 : Int32))) h4 := by
  refine xm_E_s r_X10_fits_0 rfl rfl ?_
  refine xm_E_s r_X10_fits_1 rfl (xm_T_gr rfl q0 rfl rfl q1) ?_
  refine xm_E_cv [.ref v0] [] r_X10_fits_2 rfl rfl (Nat.le_of_ble_eq_true rfl) (xm_rc q3 (by decide)) rfl q2 ?_
  refine xm_E_s r_X10_fits_3 rfl rfl ?_
  refine xm_E_t q4 ?_
  refine xm_E_s r_X10_fits_6 rfl rfl ?_
  refine xm_E_s r_X10_fits_7 rfl (xm_T_gr rfl q0 rfl rfl q5) ?_
  refine xm_E_s r_X10_fits_8 rfl (xm_T_gr rfl q6 rfl rfl q7) ?_
  refine xm_E_s r_X10_fits_9 rfl rfl ?_
  refine xm_E_s r_X10_fits_10 rfl (xm_T_gr rfl q0 rfl rfl q5) ?_
  refine xm_E_s r_X10_fits_11 rfl (xm_T_gi rfl q6 rfl (Or.inl rfl)) ?_
  refine xm_E_cv [.ref v3, .int (h1.1 v2 3)] [] r_X10_fits_12 rfl rfl (Nat.le_of_ble_eq_true rfl) (xm_rc q9 (by decide)) rfl q8 ?_
  refine xm_E_s (ls1 := [some (.ref l0), some (.int r4)]) r_X10_fits_13 rfl rfl ?_
  refine xm_E_s r_X10_fits_14 rfl rfl ?_
  refine xm_E_s r_X10_fits_15 rfl (xm_T_gr rfl q0 rfl rfl q10) ?_
  refine xm_E_s r_X10_fits_16 rfl (xm_T_gr rfl q11 rfl rfl q12) ?_
  refine xm_E_s r_X10_fits_17 rfl (xm_T_gi rfl q13 rfl (Or.inl rfl)) ?_
  refine xm_E_s r_X10_fits_18 rfl rfl ?_
  refine xm_E_t q14 ?_
  refine xm_E_s r_X10_fits_21 rfl rfl ?_
  refine xm_E_s r_X10_fits_22 rfl rfl ?_
  exact xm_E_iret r_X10_fits_29 rfl rfl
theorem p_X10_fits_0_1 {X : xm_X} {P : List xm_M} {d : Nat} {h : xm_H} {l0 : Nat} {v0 : Nat} {h1 : xm_H} {r1 : Int32} {v2 : Nat} {v3 : Nat} {h4 : xm_H} {r4 : Int32} {v5 : Nat} {v6 : Nat} (q0 : X.1[l0]? = some (.inr 9)) (q1 : h.2.2 l0 1 = some v0) (q2 : xm_V X P d 36 [.ref v0] h (some (.int r1)) h1) (q3 : X.1[v0]? = some (.inr 8)) (q4 : r1 = (0 : Int32)) (q5 : h1.2.2 l0 1 = some v2) (q6 : X.1[v2]? = some (.inr 8)) (q7 : h1.2.2 v2 0 = some v3) (q8 : xm_V X P d 44 [.ref v3, .int (h1.1 v2 3)] h1 (some (.int r4)) h4) (q9 : X.1[v3]? = some (.inr 0)) (q10 : h4.2.2 l0 1 = some v5) (q11 : X.1[v5]? = some (.inr 8)) (q12 : h4.2.2 v5 0 = some v6) (q13 : X.1[v6]? = some (.inr 0)) (q14 : ¬ (h4.1 v6 9 = (0 : Int32))) (q15 : (0 : Int32) < r4) (q16 : ¬ r4 = 0) : xm_E X P d co_X10_fits 0 [some (.ref l0), none] [] h (some (.int ((h4.1 v6 9) / r4))) h4 := by
  refine xm_E_s r_X10_fits_0 rfl rfl ?_
  refine xm_E_s r_X10_fits_1 rfl (xm_T_gr rfl q0 rfl rfl q1) ?_
  refine xm_E_cv [.ref v0] [] r_X10_fits_2 rfl rfl (Nat.le_of_ble_eq_true rfl) (xm_rc q3 (by decide)) rfl q2 ?_
  refine xm_E_s r_X10_fits_3 rfl rfl ?_
  refine xm_E_t q4 ?_
  refine xm_E_s r_X10_fits_6 rfl rfl ?_
  refine xm_E_s r_X10_fits_7 rfl (xm_T_gr rfl q0 rfl rfl q5) ?_
  refine xm_E_s r_X10_fits_8 rfl (xm_T_gr rfl q6 rfl rfl q7) ?_
  refine xm_E_s r_X10_fits_9 rfl rfl ?_
  refine xm_E_s r_X10_fits_10 rfl (xm_T_gr rfl q0 rfl rfl q5) ?_
  refine xm_E_s r_X10_fits_11 rfl (xm_T_gi rfl q6 rfl (Or.inl rfl)) ?_
  refine xm_E_cv [.ref v3, .int (h1.1 v2 3)] [] r_X10_fits_12 rfl rfl (Nat.le_of_ble_eq_true rfl) (xm_rc q9 (by decide)) rfl q8 ?_
  refine xm_E_s (ls1 := [some (.ref l0), some (.int r4)]) r_X10_fits_13 rfl rfl ?_
  refine xm_E_s r_X10_fits_14 rfl rfl ?_
  refine xm_E_s r_X10_fits_15 rfl (xm_T_gr rfl q0 rfl rfl q10) ?_
  refine xm_E_s r_X10_fits_16 rfl (xm_T_gr rfl q11 rfl rfl q12) ?_
  refine xm_E_s r_X10_fits_17 rfl (xm_T_gi rfl q13 rfl (Or.inl rfl)) ?_
  refine xm_E_s r_X10_fits_18 rfl rfl ?_
  refine xm_E_f q14 ?_
  refine xm_E_s r_X10_fits_19 rfl rfl ?_
  refine xm_E_s r_X10_fits_20 rfl rfl ?_
  refine xm_E_t q15 ?_
  refine xm_E_s r_X10_fits_23 rfl rfl ?_
  refine xm_E_s r_X10_fits_24 rfl (xm_T_gr rfl q0 rfl rfl q10) ?_
  refine xm_E_s r_X10_fits_25 rfl (xm_T_gr rfl q11 rfl rfl q12) ?_
  refine xm_E_s r_X10_fits_26 rfl (xm_T_gi rfl q13 rfl (Or.inl rfl)) ?_
  refine xm_E_s r_X10_fits_27 rfl rfl ?_
  refine xm_E_s r_X10_fits_28 rfl (xm_T_idiv rfl q16) ?_
  exact xm_E_iret r_X10_fits_29 rfl rfl
theorem p_X10_fits_0_2 {X : xm_X} {P : List xm_M} {d : Nat} {h : xm_H} {l0 : Nat} {v0 : Nat} {h1 : xm_H} {r1 : Int32} {v2 : Nat} {v3 : Nat} {h4 : xm_H} {r4 : Int32} {v5 : Nat} {v6 : Nat} (q0 : X.1[l0]? = some (.inr 9)) (q1 : h.2.2 l0 1 = some v0) (q2 : xm_V X P d 36 [.ref v0] h (some (.int r1)) h1) (q3 : X.1[v0]? = some (.inr 8)) (q4 : r1 = (0 : Int32)) (q5 : h1.2.2 l0 1 = some v2) (q6 : X.1[v2]? = some (.inr 8)) (q7 : h1.2.2 v2 0 = some v3) (q8 : xm_V X P d 44 [.ref v3, .int (h1.1 v2 3)] h1 (some (.int r4)) h4) (q9 : X.1[v3]? = some (.inr 0)) (q10 : h4.2.2 l0 1 = some v5) (q11 : X.1[v5]? = some (.inr 8)) (q12 : h4.2.2 v5 0 = some v6) (q13 : X.1[v6]? = some (.inr 0)) (q14 : ¬ (h4.1 v6 9 = (0 : Int32))) (q15 : ¬ ((0 : Int32) < r4)) : xm_E X P d co_X10_fits 0 [some (.ref l0), none] [] h (some (.int (-1 : Int32))) h4 := by
  refine xm_E_s r_X10_fits_0 rfl rfl ?_
  refine xm_E_s r_X10_fits_1 rfl (xm_T_gr rfl q0 rfl rfl q1) ?_
  refine xm_E_cv [.ref v0] [] r_X10_fits_2 rfl rfl (Nat.le_of_ble_eq_true rfl) (xm_rc q3 (by decide)) rfl q2 ?_
  refine xm_E_s r_X10_fits_3 rfl rfl ?_
  refine xm_E_t q4 ?_
  refine xm_E_s r_X10_fits_6 rfl rfl ?_
  refine xm_E_s r_X10_fits_7 rfl (xm_T_gr rfl q0 rfl rfl q5) ?_
  refine xm_E_s r_X10_fits_8 rfl (xm_T_gr rfl q6 rfl rfl q7) ?_
  refine xm_E_s r_X10_fits_9 rfl rfl ?_
  refine xm_E_s r_X10_fits_10 rfl (xm_T_gr rfl q0 rfl rfl q5) ?_
  refine xm_E_s r_X10_fits_11 rfl (xm_T_gi rfl q6 rfl (Or.inl rfl)) ?_
  refine xm_E_cv [.ref v3, .int (h1.1 v2 3)] [] r_X10_fits_12 rfl rfl (Nat.le_of_ble_eq_true rfl) (xm_rc q9 (by decide)) rfl q8 ?_
  refine xm_E_s (ls1 := [some (.ref l0), some (.int r4)]) r_X10_fits_13 rfl rfl ?_
  refine xm_E_s r_X10_fits_14 rfl rfl ?_
  refine xm_E_s r_X10_fits_15 rfl (xm_T_gr rfl q0 rfl rfl q10) ?_
  refine xm_E_s r_X10_fits_16 rfl (xm_T_gr rfl q11 rfl rfl q12) ?_
  refine xm_E_s r_X10_fits_17 rfl (xm_T_gi rfl q13 rfl (Or.inl rfl)) ?_
  refine xm_E_s r_X10_fits_18 rfl rfl ?_
  refine xm_E_f q14 ?_
  refine xm_E_s r_X10_fits_19 rfl rfl ?_
  refine xm_E_s r_X10_fits_20 rfl rfl ?_
  refine xm_E_f q15 ?_
  refine xm_E_s r_X10_fits_21 rfl rfl ?_
  refine xm_E_s r_X10_fits_22 rfl rfl ?_
  exact xm_E_iret r_X10_fits_29 rfl rfl
theorem p_X10_fits_0_3 {X : xm_X} {P : List xm_M} {d : Nat} {h : xm_H} {l0 : Nat} {v0 : Nat} {h1 : xm_H} {r1 : Int32} (q0 : X.1[l0]? = some (.inr 9)) (q1 : h.2.2 l0 1 = some v0) (q2 : xm_V X P d 36 [.ref v0] h (some (.int r1)) h1) (q3 : X.1[v0]? = some (.inr 8)) (q4 : ¬ (r1 = (0 : Int32))) : xm_E X P d co_X10_fits 0 [some (.ref l0), none] [] h (some (.int (-2 : Int32))) h1 := by
  refine xm_E_s r_X10_fits_0 rfl rfl ?_
  refine xm_E_s r_X10_fits_1 rfl (xm_T_gr rfl q0 rfl rfl q1) ?_
  refine xm_E_cv [.ref v0] [] r_X10_fits_2 rfl rfl (Nat.le_of_ble_eq_true rfl) (xm_rc q3 (by decide)) rfl q2 ?_
  refine xm_E_s r_X10_fits_3 rfl rfl ?_
  refine xm_E_f q4 ?_
  refine xm_E_s r_X10_fits_4 rfl rfl ?_
  exact xm_E_iret r_X10_fits_5 rfl rfl
theorem r_X10_packs_0 : co_X10_packs[0]? = some ((0, .aload_n 0, 0, 0, 0, 0, 0, 0, []) : xm_I) := rfl
theorem r_X10_packs_1 : co_X10_packs[1]? = some ((1, .getfield 19, 482, 9, 1, 2, 0, 0, []) : xm_I) := rfl
theorem r_X10_packs_2 : co_X10_packs[2]? = some ((4, .invokevirtual 113, 696, 36, 1, 8, 0, 0, []) : xm_I) := rfl
theorem r_X10_packs_3 : co_X10_packs[3]? = some ((7, .ifCond .ne 17, 0, 0, 10, 0, 0, 0, []) : xm_I) := rfl
theorem r_X10_packs_4 : co_X10_packs[4]? = some ((10, .iload_n 1, 0, 0, 0, 0, 0, 0, []) : xm_I) := rfl
theorem r_X10_packs_5 : co_X10_packs[5]? = some ((11, .invokestatic 310, 832, 68, 1, 0, 0, 0, []) : xm_I) := rfl
theorem r_X10_packs_6 : co_X10_packs[6]? = some ((14, .ifCond .eq 10, 0, 0, 10, 0, 0, 0, []) : xm_I) := rfl
theorem r_X10_packs_7 : co_X10_packs[7]? = some ((17, .iload_n 2, 0, 0, 0, 0, 0, 0, []) : xm_I) := rfl
theorem r_X10_packs_8 : co_X10_packs[8]? = some ((18, .invokestatic 261, 1094, 127, 1, 0, 0, 0, []) : xm_I) := rfl
theorem r_X10_packs_9 : co_X10_packs[9]? = some ((21, .ifCond .ne 6, 0, 0, 12, 0, 0, 0, []) : xm_I) := rfl
theorem r_X10_packs_10 : co_X10_packs[10]? = some ((24, .bipush (-2), 0, 0, 0, 0, (-2), 0, []) : xm_I) := rfl
theorem r_X10_packs_11 : co_X10_packs[11]? = some ((26, .ireturn, 0, 0, 0, 0, 0, 0, []) : xm_I) := rfl
theorem r_X10_packs_12 : co_X10_packs[12]? = some ((27, .aload_n 0, 0, 0, 0, 0, 0, 0, []) : xm_I) := rfl
theorem r_X10_packs_13 : co_X10_packs[13]? = some ((28, .getfield 36, 485, 9, 4, 2, 0, 0, []) : xm_I) := rfl
theorem r_X10_packs_14 : co_X10_packs[14]? = some ((31, .iload_n 1, 0, 0, 0, 0, 0, 0, []) : xm_I) := rfl
theorem r_X10_packs_15 : co_X10_packs[15]? = some ((32, .aaload, 0, 0, 0, 0, 0, 0, []) : xm_I) := rfl
theorem r_X10_packs_16 : co_X10_packs[16]? = some ((33, .astore_n 3, 0, 0, 0, 0, 0, 0, []) : xm_I) := rfl
theorem r_X10_packs_17 : co_X10_packs[17]? = some ((34, .aload_n 3, 0, 0, 0, 0, 0, 0, []) : xm_I) := rfl
theorem r_X10_packs_18 : co_X10_packs[18]? = some ((35, .getfield 313, 465, 2, 1, 3, 0, 0, []) : xm_I) := rfl
theorem r_X10_packs_19 : co_X10_packs[19]? = some ((38, .ifCond .ne 6, 0, 0, 22, 0, 0, 0, []) : xm_I) := rfl
theorem r_X10_packs_20 : co_X10_packs[20]? = some ((41, .bipush (-6), 0, 0, 0, 0, (-6), 0, []) : xm_I) := rfl
theorem r_X10_packs_21 : co_X10_packs[21]? = some ((43, .ireturn, 0, 0, 0, 0, 0, 0, []) : xm_I) := rfl
theorem r_X10_packs_22 : co_X10_packs[22]? = some ((44, .aload_n 3, 0, 0, 0, 0, 0, 0, []) : xm_I) := rfl
theorem r_X10_packs_23 : co_X10_packs[23]? = some ((45, .invokevirtual 317, 1181, 147, 1, 2, 0, 0, []) : xm_I) := rfl
theorem r_X10_packs_24 : co_X10_packs[24]? = some ((48, .ifCond .eq 6, 0, 0, 27, 0, 0, 0, []) : xm_I) := rfl
theorem r_X10_packs_25 : co_X10_packs[25]? = some ((51, .bipush (-2), 0, 0, 0, 0, (-2), 0, []) : xm_I) := rfl
theorem r_X10_packs_26 : co_X10_packs[26]? = some ((53, .ireturn, 0, 0, 0, 0, 0, 0, []) : xm_I) := rfl
theorem r_X10_packs_27 : co_X10_packs[27]? = some ((54, .aload_n 0, 0, 0, 0, 0, 0, 0, []) : xm_I) := rfl
theorem r_X10_packs_28 : co_X10_packs[28]? = some ((55, .getfield 19, 482, 9, 1, 2, 0, 0, []) : xm_I) := rfl
theorem r_X10_packs_29 : co_X10_packs[29]? = some ((58, .getfield 103, 305, 8, 0, 2, 0, 0, []) : xm_I) := rfl
theorem r_X10_packs_30 : co_X10_packs[30]? = some ((61, .getfield 307, 237, 0, 9, 0, 0, 0, []) : xm_I) := rfl
theorem r_X10_packs_31 : co_X10_packs[31]? = some ((64, .ifCond .ne 5, 0, 0, 34, 0, 0, 0, []) : xm_I) := rfl
theorem r_X10_packs_32 : co_X10_packs[32]? = some ((67, .iconst (-1), 0, 0, 0, 0, (-1), 0, []) : xm_I) := rfl
theorem r_X10_packs_33 : co_X10_packs[33]? = some ((68, .ireturn, 0, 0, 0, 0, 0, 0, []) : xm_I) := rfl
theorem r_X10_packs_34 : co_X10_packs[34]? = some ((69, .iload_n 2, 0, 0, 0, 0, 0, 0, []) : xm_I) := rfl
theorem r_X10_packs_35 : co_X10_packs[35]? = some ((70, .ifCond .ne 24, 0, 0, 45, 0, 0, 0, []) : xm_I) := rfl
theorem r_X10_packs_36 : co_X10_packs[36]? = some ((73, .aload_n 0, 0, 0, 0, 0, 0, 0, []) : xm_I) := rfl
theorem r_X10_packs_37 : co_X10_packs[37]? = some ((74, .getfield 64, 489, 9, 8, 2, 0, 0, []) : xm_I) := rfl
theorem r_X10_packs_38 : co_X10_packs[38]? = some ((77, .aload_n 3, 0, 0, 0, 0, 0, 0, []) : xm_I) := rfl
theorem r_X10_packs_39 : co_X10_packs[39]? = some ((78, .aload_n 0, 0, 0, 0, 0, 0, 0, []) : xm_I) := rfl
theorem r_X10_packs_40 : co_X10_packs[40]? = some ((79, .getfield 19, 482, 9, 1, 2, 0, 0, []) : xm_I) := rfl
theorem r_X10_packs_41 : co_X10_packs[41]? = some ((82, .getfield 103, 305, 8, 0, 2, 0, 0, []) : xm_I) := rfl
theorem r_X10_packs_42 : co_X10_packs[42]? = some ((85, .getfield 307, 237, 0, 9, 0, 0, 0, []) : xm_I) := rfl
theorem r_X10_packs_43 : co_X10_packs[43]? = some ((88, .invokevirtual 320, 1185, 148, 3, 1, 0, 0, []) : xm_I) := rfl
theorem r_X10_packs_44 : co_X10_packs[44]? = some ((91, .goto 21, 0, 0, 53, 0, 0, 0, []) : xm_I) := rfl
theorem r_X10_packs_45 : co_X10_packs[45]? = some ((94, .aload_n 0, 0, 0, 0, 0, 0, 0, []) : xm_I) := rfl
theorem r_X10_packs_46 : co_X10_packs[46]? = some ((95, .getfield 64, 489, 9, 8, 2, 0, 0, []) : xm_I) := rfl
theorem r_X10_packs_47 : co_X10_packs[47]? = some ((98, .aload_n 3, 0, 0, 0, 0, 0, 0, []) : xm_I) := rfl
theorem r_X10_packs_48 : co_X10_packs[48]? = some ((99, .aload_n 0, 0, 0, 0, 0, 0, 0, []) : xm_I) := rfl
theorem r_X10_packs_49 : co_X10_packs[49]? = some ((100, .getfield 19, 482, 9, 1, 2, 0, 0, []) : xm_I) := rfl
theorem r_X10_packs_50 : co_X10_packs[50]? = some ((103, .getfield 103, 305, 8, 0, 2, 0, 0, []) : xm_I) := rfl
theorem r_X10_packs_51 : co_X10_packs[51]? = some ((106, .getfield 307, 237, 0, 9, 0, 0, 0, []) : xm_I) := rfl
theorem r_X10_packs_52 : co_X10_packs[52]? = some ((109, .invokevirtual 324, 1195, 150, 3, 1, 0, 0, []) : xm_I) := rfl
theorem r_X10_packs_53 : co_X10_packs[53]? = some ((112, .ireturn, 0, 0, 0, 0, 0, 0, []) : xm_I) := rfl
theorem p_X10_packs_0_0 {X : xm_X} {P : List xm_M} {d : Nat} {h : xm_H} {l0 : Nat} {l1 : Int32} {l2 : Int32} {v0 : Nat} {h1 : xm_H} {r1 : Int32} {h2 : xm_H} {r2 : Int32} (q0 : X.1[l0]? = some (.inr 9)) (q1 : h.2.2 l0 1 = some v0) (q2 : xm_V X P d 36 [.ref v0] h (some (.int r1)) h1) (q3 : X.1[v0]? = some (.inr 8)) (q4 : r1 = (0 : Int32)) (q5 : xm_V X P d 68 [.int l1] h1 (some (.int r2)) h2) (q6 : r2 = (0 : Int32)) : xm_E X P d co_X10_packs 0 [some (.ref l0), some (.int l1), some (.int l2), none] [] h (some (.int (-2 : Int32))) h2 := by
  refine xm_E_s r_X10_packs_0 rfl rfl ?_
  refine xm_E_s r_X10_packs_1 rfl (xm_T_gr rfl q0 rfl rfl q1) ?_
  refine xm_E_cv [.ref v0] [] r_X10_packs_2 rfl rfl (Nat.le_of_ble_eq_true rfl) (xm_rc q3 (by decide)) rfl q2 ?_
  refine xm_E_s r_X10_packs_3 rfl rfl ?_
  refine xm_E_t q4 ?_
  refine xm_E_s r_X10_packs_4 rfl rfl ?_
  refine xm_E_cs [.int l1] [] r_X10_packs_5 rfl rfl rfl (Nat.le_of_ble_eq_true rfl) rfl q5 ?_
  refine xm_E_s r_X10_packs_6 rfl rfl ?_
  refine xm_E_t q6 ?_
  refine xm_E_s r_X10_packs_10 rfl rfl ?_
  exact xm_E_iret r_X10_packs_11 rfl rfl
theorem p_X10_packs_0_1 {X : xm_X} {P : List xm_M} {d : Nat} {h : xm_H} {l0 : Nat} {l1 : Int32} {l2 : Int32} {v0 : Nat} {h1 : xm_H} {r1 : Int32} {h2 : xm_H} {r2 : Int32} {h3 : xm_H} {r3 : Int32} (q0 : X.1[l0]? = some (.inr 9)) (q1 : h.2.2 l0 1 = some v0) (q2 : xm_V X P d 36 [.ref v0] h (some (.int r1)) h1) (q3 : X.1[v0]? = some (.inr 8)) (q4 : r1 = (0 : Int32)) (q5 : xm_V X P d 68 [.int l1] h1 (some (.int r2)) h2) (q6 : ¬ (r2 = (0 : Int32))) (q7 : xm_V X P d 127 [.int l2] h2 (some (.int r3)) h3) (q8 : r3 = (0 : Int32)) : xm_E X P d co_X10_packs 0 [some (.ref l0), some (.int l1), some (.int l2), none] [] h (some (.int (-2 : Int32))) h3 := by
  refine xm_E_s r_X10_packs_0 rfl rfl ?_
  refine xm_E_s r_X10_packs_1 rfl (xm_T_gr rfl q0 rfl rfl q1) ?_
  refine xm_E_cv [.ref v0] [] r_X10_packs_2 rfl rfl (Nat.le_of_ble_eq_true rfl) (xm_rc q3 (by decide)) rfl q2 ?_
  refine xm_E_s r_X10_packs_3 rfl rfl ?_
  refine xm_E_t q4 ?_
  refine xm_E_s r_X10_packs_4 rfl rfl ?_
  refine xm_E_cs [.int l1] [] r_X10_packs_5 rfl rfl rfl (Nat.le_of_ble_eq_true rfl) rfl q5 ?_
  refine xm_E_s r_X10_packs_6 rfl rfl ?_
  refine xm_E_f q6 ?_
  refine xm_E_s r_X10_packs_7 rfl rfl ?_
  refine xm_E_cs [.int l2] [] r_X10_packs_8 rfl rfl rfl (Nat.le_of_ble_eq_true rfl) rfl q7 ?_
  refine xm_E_s r_X10_packs_9 rfl rfl ?_
  refine xm_E_t q8 ?_
  refine xm_E_s r_X10_packs_10 rfl rfl ?_
  exact xm_E_iret r_X10_packs_11 rfl rfl
theorem p_X10_packs_0_2 {X : xm_X} {P : List xm_M} {d : Nat} {h : xm_H} {l0 : Nat} {l1 : Int32} {l2 : Int32} {v0 : Nat} {h1 : xm_H} {r1 : Int32} {h2 : xm_H} {r2 : Int32} {h3 : xm_H} {r3 : Int32} {v4 : Nat} {n5 : Nat} {b5 : Nat} {v6 : Nat} (q0 : X.1[l0]? = some (.inr 9)) (q1 : h.2.2 l0 1 = some v0) (q2 : xm_V X P d 36 [.ref v0] h (some (.int r1)) h1) (q3 : X.1[v0]? = some (.inr 8)) (q4 : r1 = (0 : Int32)) (q5 : xm_V X P d 68 [.int l1] h1 (some (.int r2)) h2) (q6 : ¬ (r2 = (0 : Int32))) (q7 : xm_V X P d 127 [.int l2] h2 (some (.int r3)) h3) (q8 : ¬ (r3 = (0 : Int32))) (q9 : h3.2.2 l0 4 = some v4) (q10 : X.1[v4]? = some (.inl (b5, n5))) (q11 : ¬ (l1 < 0 ∨ n5 ≤ l1.toNatClampNeg)) (q12 : b5 = 4 ∨ b5 = 5) (q13 : h3.2.2 v4 l1.toNatClampNeg = some v6) (q14 : X.1[v6]? = some (.inr 2)) (q15 : h3.1 v6 1 = (0 : Int32)) : xm_E X P d co_X10_packs 0 [some (.ref l0), some (.int l1), some (.int l2), none] [] h (some (.int (-6 : Int32))) h3 := by
  refine xm_E_s r_X10_packs_0 rfl rfl ?_
  refine xm_E_s r_X10_packs_1 rfl (xm_T_gr rfl q0 rfl rfl q1) ?_
  refine xm_E_cv [.ref v0] [] r_X10_packs_2 rfl rfl (Nat.le_of_ble_eq_true rfl) (xm_rc q3 (by decide)) rfl q2 ?_
  refine xm_E_s r_X10_packs_3 rfl rfl ?_
  refine xm_E_t q4 ?_
  refine xm_E_s r_X10_packs_4 rfl rfl ?_
  refine xm_E_cs [.int l1] [] r_X10_packs_5 rfl rfl rfl (Nat.le_of_ble_eq_true rfl) rfl q5 ?_
  refine xm_E_s r_X10_packs_6 rfl rfl ?_
  refine xm_E_f q6 ?_
  refine xm_E_s r_X10_packs_7 rfl rfl ?_
  refine xm_E_cs [.int l2] [] r_X10_packs_8 rfl rfl rfl (Nat.le_of_ble_eq_true rfl) rfl q7 ?_
  refine xm_E_s r_X10_packs_9 rfl rfl ?_
  refine xm_E_f q8 ?_
  refine xm_E_s r_X10_packs_12 rfl rfl ?_
  refine xm_E_s r_X10_packs_13 rfl (xm_T_gr rfl q0 rfl rfl q9) ?_
  refine xm_E_s r_X10_packs_14 rfl rfl ?_
  refine xm_E_s r_X10_packs_15 rfl (xm_T_aald rfl q10 q12 q11 q13) ?_
  refine xm_E_s (ls1 := [some (.ref l0), some (.int l1), some (.int l2), some (.ref v6)]) r_X10_packs_16 rfl rfl ?_
  refine xm_E_s r_X10_packs_17 rfl rfl ?_
  refine xm_E_s r_X10_packs_18 rfl (xm_T_gi rfl q14 rfl (Or.inr rfl)) ?_
  refine xm_E_s r_X10_packs_19 rfl rfl ?_
  refine xm_E_t q15 ?_
  refine xm_E_s r_X10_packs_20 rfl rfl ?_
  exact xm_E_iret r_X10_packs_21 rfl rfl
theorem p_X10_packs_0_3 {X : xm_X} {P : List xm_M} {d : Nat} {h : xm_H} {l0 : Nat} {l1 : Int32} {l2 : Int32} {v0 : Nat} {h1 : xm_H} {r1 : Int32} {h2 : xm_H} {r2 : Int32} {h3 : xm_H} {r3 : Int32} {v4 : Nat} {n5 : Nat} {b5 : Nat} {v6 : Nat} {h7 : xm_H} {r7 : Int32} {v8 : Nat} {v9 : Nat} (q0 : X.1[l0]? = some (.inr 9)) (q1 : h.2.2 l0 1 = some v0) (q2 : xm_V X P d 36 [.ref v0] h (some (.int r1)) h1) (q3 : X.1[v0]? = some (.inr 8)) (q4 : r1 = (0 : Int32)) (q5 : xm_V X P d 68 [.int l1] h1 (some (.int r2)) h2) (q6 : ¬ (r2 = (0 : Int32))) (q7 : xm_V X P d 127 [.int l2] h2 (some (.int r3)) h3) (q8 : ¬ (r3 = (0 : Int32))) (q9 : h3.2.2 l0 4 = some v4) (q10 : X.1[v4]? = some (.inl (b5, n5))) (q11 : ¬ (l1 < 0 ∨ n5 ≤ l1.toNatClampNeg)) (q12 : b5 = 4 ∨ b5 = 5) (q13 : h3.2.2 v4 l1.toNatClampNeg = some v6) (q14 : X.1[v6]? = some (.inr 2)) (q15 : ¬ (h3.1 v6 1 = (0 : Int32))) (q16 : xm_V X P d 147 [.ref v6] h3 (some (.int r7)) h7) (q17 : r7 = (0 : Int32)) (q18 : h7.2.2 l0 1 = some v8) (q19 : X.1[v8]? = some (.inr 8)) (q20 : h7.2.2 v8 0 = some v9) (q21 : X.1[v9]? = some (.inr 0)) (q22 : h7.1 v9 9 = (0 : Int32)) : xm_E X P d co_X10_packs 0 [some (.ref l0), some (.int l1), some (.int l2), none] [] h (some (.int (-1 : Int32))) h7 := by
  refine xm_E_s r_X10_packs_0 rfl rfl ?_
  refine xm_E_s r_X10_packs_1 rfl (xm_T_gr rfl q0 rfl rfl q1) ?_
  refine xm_E_cv [.ref v0] [] r_X10_packs_2 rfl rfl (Nat.le_of_ble_eq_true rfl) (xm_rc q3 (by decide)) rfl q2 ?_
  refine xm_E_s r_X10_packs_3 rfl rfl ?_
  refine xm_E_t q4 ?_
  refine xm_E_s r_X10_packs_4 rfl rfl ?_
  refine xm_E_cs [.int l1] [] r_X10_packs_5 rfl rfl rfl (Nat.le_of_ble_eq_true rfl) rfl q5 ?_
  refine xm_E_s r_X10_packs_6 rfl rfl ?_
  refine xm_E_f q6 ?_
  refine xm_E_s r_X10_packs_7 rfl rfl ?_
  refine xm_E_cs [.int l2] [] r_X10_packs_8 rfl rfl rfl (Nat.le_of_ble_eq_true rfl) rfl q7 ?_
  refine xm_E_s r_X10_packs_9 rfl rfl ?_
  refine xm_E_f q8 ?_
  refine xm_E_s r_X10_packs_12 rfl rfl ?_
  refine xm_E_s r_X10_packs_13 rfl (xm_T_gr rfl q0 rfl rfl q9) ?_
  refine xm_E_s r_X10_packs_14 rfl rfl ?_
  refine xm_E_s r_X10_packs_15 rfl (xm_T_aald rfl q10 q12 q11 q13) ?_
  refine xm_E_s (ls1 := [some (.ref l0), some (.int l1), some (.int l2), some (.ref v6)]) r_X10_packs_16 rfl rfl ?_
  refine xm_E_s r_X10_packs_17 rfl rfl ?_
  refine xm_E_s r_X10_packs_18 rfl (xm_T_gi rfl q14 rfl (Or.inr rfl)) ?_
  refine xm_E_s r_X10_packs_19 rfl rfl ?_
  refine xm_E_f q15 ?_
  refine xm_E_s r_X10_packs_22 rfl rfl ?_
  refine xm_E_cv [.ref v6] [] r_X10_packs_23 rfl rfl (Nat.le_of_ble_eq_true rfl) (xm_rc q14 (by decide)) rfl q16 ?_
  refine xm_E_s r_X10_packs_24 rfl rfl ?_
  refine xm_E_t q17 ?_
  refine xm_E_s r_X10_packs_27 rfl rfl ?_
  refine xm_E_s r_X10_packs_28 rfl (xm_T_gr rfl q0 rfl rfl q18) ?_
  refine xm_E_s r_X10_packs_29 rfl (xm_T_gr rfl q19 rfl rfl q20) ?_
  refine xm_E_s r_X10_packs_30 rfl (xm_T_gi rfl q21 rfl (Or.inl rfl)) ?_
  refine xm_E_s r_X10_packs_31 rfl rfl ?_
  refine xm_E_t q22 ?_
  refine xm_E_s r_X10_packs_32 rfl rfl ?_
  exact xm_E_iret r_X10_packs_33 rfl rfl
theorem p_X10_packs_0_4 {X : xm_X} {P : List xm_M} {d : Nat} {h : xm_H} {l0 : Nat} {l1 : Int32} {l2 : Int32} {v0 : Nat} {h1 : xm_H} {r1 : Int32} {h2 : xm_H} {r2 : Int32} {h3 : xm_H} {r3 : Int32} {v4 : Nat} {n5 : Nat} {b5 : Nat} {v6 : Nat} {h7 : xm_H} {r7 : Int32} {v8 : Nat} {v9 : Nat} {v10 : Nat} {h11 : xm_H} {r11 : Int32} (q0 : X.1[l0]? = some (.inr 9)) (q1 : h.2.2 l0 1 = some v0) (q2 : xm_V X P d 36 [.ref v0] h (some (.int r1)) h1) (q3 : X.1[v0]? = some (.inr 8)) (q4 : r1 = (0 : Int32)) (q5 : xm_V X P d 68 [.int l1] h1 (some (.int r2)) h2) (q6 : ¬ (r2 = (0 : Int32))) (q7 : xm_V X P d 127 [.int l2] h2 (some (.int r3)) h3) (q8 : ¬ (r3 = (0 : Int32))) (q9 : h3.2.2 l0 4 = some v4) (q10 : X.1[v4]? = some (.inl (b5, n5))) (q11 : ¬ (l1 < 0 ∨ n5 ≤ l1.toNatClampNeg)) (q12 : b5 = 4 ∨ b5 = 5) (q13 : h3.2.2 v4 l1.toNatClampNeg = some v6) (q14 : X.1[v6]? = some (.inr 2)) (q15 : ¬ (h3.1 v6 1 = (0 : Int32))) (q16 : xm_V X P d 147 [.ref v6] h3 (some (.int r7)) h7) (q17 : r7 = (0 : Int32)) (q18 : h7.2.2 l0 1 = some v8) (q19 : X.1[v8]? = some (.inr 8)) (q20 : h7.2.2 v8 0 = some v9) (q21 : X.1[v9]? = some (.inr 0)) (q22 : ¬ (h7.1 v9 9 = (0 : Int32))) (q23 : l2 = (0 : Int32)) (q24 : h7.2.2 l0 8 = some v10) (q25 : xm_V X P d 148 [.ref v10, .ref v6, .int (h7.1 v9 9)] h7 (some (.int r11)) h11) (q26 : X.1[v10]? = some (.inr 1)) : xm_E X P d co_X10_packs 0 [some (.ref l0), some (.int l1), some (.int l2), none] [] h (some (.int r11)) h11 := by
  refine xm_E_s r_X10_packs_0 rfl rfl ?_
  refine xm_E_s r_X10_packs_1 rfl (xm_T_gr rfl q0 rfl rfl q1) ?_
  refine xm_E_cv [.ref v0] [] r_X10_packs_2 rfl rfl (Nat.le_of_ble_eq_true rfl) (xm_rc q3 (by decide)) rfl q2 ?_
  refine xm_E_s r_X10_packs_3 rfl rfl ?_
  refine xm_E_t q4 ?_
  refine xm_E_s r_X10_packs_4 rfl rfl ?_
  refine xm_E_cs [.int l1] [] r_X10_packs_5 rfl rfl rfl (Nat.le_of_ble_eq_true rfl) rfl q5 ?_
  refine xm_E_s r_X10_packs_6 rfl rfl ?_
  refine xm_E_f q6 ?_
  refine xm_E_s r_X10_packs_7 rfl rfl ?_
  refine xm_E_cs [.int l2] [] r_X10_packs_8 rfl rfl rfl (Nat.le_of_ble_eq_true rfl) rfl q7 ?_
  refine xm_E_s r_X10_packs_9 rfl rfl ?_
  refine xm_E_f q8 ?_
  refine xm_E_s r_X10_packs_12 rfl rfl ?_
  refine xm_E_s r_X10_packs_13 rfl (xm_T_gr rfl q0 rfl rfl q9) ?_
  refine xm_E_s r_X10_packs_14 rfl rfl ?_
  refine xm_E_s r_X10_packs_15 rfl (xm_T_aald rfl q10 q12 q11 q13) ?_
  refine xm_E_s (ls1 := [some (.ref l0), some (.int l1), some (.int l2), some (.ref v6)]) r_X10_packs_16 rfl rfl ?_
  refine xm_E_s r_X10_packs_17 rfl rfl ?_
  refine xm_E_s r_X10_packs_18 rfl (xm_T_gi rfl q14 rfl (Or.inr rfl)) ?_
  refine xm_E_s r_X10_packs_19 rfl rfl ?_
  refine xm_E_f q15 ?_
  refine xm_E_s r_X10_packs_22 rfl rfl ?_
  refine xm_E_cv [.ref v6] [] r_X10_packs_23 rfl rfl (Nat.le_of_ble_eq_true rfl) (xm_rc q14 (by decide)) rfl q16 ?_
  refine xm_E_s r_X10_packs_24 rfl rfl ?_
  refine xm_E_t q17 ?_
  refine xm_E_s r_X10_packs_27 rfl rfl ?_
  refine xm_E_s r_X10_packs_28 rfl (xm_T_gr rfl q0 rfl rfl q18) ?_
  refine xm_E_s r_X10_packs_29 rfl (xm_T_gr rfl q19 rfl rfl q20) ?_
  refine xm_E_s r_X10_packs_30 rfl (xm_T_gi rfl q21 rfl (Or.inl rfl)) ?_
  refine xm_E_s r_X10_packs_31 rfl rfl ?_
  refine xm_E_f q22 ?_
  refine xm_E_s r_X10_packs_34 rfl rfl ?_
  refine xm_E_s r_X10_packs_35 rfl rfl ?_
  refine xm_E_t q23 ?_
  refine xm_E_s r_X10_packs_36 rfl rfl ?_
  refine xm_E_s r_X10_packs_37 rfl (xm_T_gr rfl q0 rfl rfl q24) ?_
  refine xm_E_s r_X10_packs_38 rfl rfl ?_
  refine xm_E_s r_X10_packs_39 rfl rfl ?_
  refine xm_E_s r_X10_packs_40 rfl (xm_T_gr rfl q0 rfl rfl q18) ?_
  refine xm_E_s r_X10_packs_41 rfl (xm_T_gr rfl q19 rfl rfl q20) ?_
  refine xm_E_s r_X10_packs_42 rfl (xm_T_gi rfl q21 rfl (Or.inl rfl)) ?_
  refine xm_E_cv [.ref v10, .ref v6, .int (h7.1 v9 9)] [] r_X10_packs_43 rfl rfl (Nat.le_of_ble_eq_true rfl) (xm_rc q26 (by decide)) rfl q25 ?_
  refine xm_E_s r_X10_packs_44 rfl rfl ?_
  exact xm_E_iret r_X10_packs_53 rfl rfl
theorem p_X10_packs_0_5 {X : xm_X} {P : List xm_M} {d : Nat} {h : xm_H} {l0 : Nat} {l1 : Int32} {l2 : Int32} {v0 : Nat} {h1 : xm_H} {r1 : Int32} {h2 : xm_H} {r2 : Int32} {h3 : xm_H} {r3 : Int32} {v4 : Nat} {n5 : Nat} {b5 : Nat} {v6 : Nat} {h7 : xm_H} {r7 : Int32} {v8 : Nat} {v9 : Nat} {v10 : Nat} {h11 : xm_H} {r11 : Int32} (q0 : X.1[l0]? = some (.inr 9)) (q1 : h.2.2 l0 1 = some v0) (q2 : xm_V X P d 36 [.ref v0] h (some (.int r1)) h1) (q3 : X.1[v0]? = some (.inr 8)) (q4 : r1 = (0 : Int32)) (q5 : xm_V X P d 68 [.int l1] h1 (some (.int r2)) h2) (q6 : ¬ (r2 = (0 : Int32))) (q7 : xm_V X P d 127 [.int l2] h2 (some (.int r3)) h3) (q8 : ¬ (r3 = (0 : Int32))) (q9 : h3.2.2 l0 4 = some v4) (q10 : X.1[v4]? = some (.inl (b5, n5))) (q11 : ¬ (l1 < 0 ∨ n5 ≤ l1.toNatClampNeg)) (q12 : b5 = 4 ∨ b5 = 5) (q13 : h3.2.2 v4 l1.toNatClampNeg = some v6) (q14 : X.1[v6]? = some (.inr 2)) (q15 : ¬ (h3.1 v6 1 = (0 : Int32))) (q16 : xm_V X P d 147 [.ref v6] h3 (some (.int r7)) h7) (q17 : r7 = (0 : Int32)) (q18 : h7.2.2 l0 1 = some v8) (q19 : X.1[v8]? = some (.inr 8)) (q20 : h7.2.2 v8 0 = some v9) (q21 : X.1[v9]? = some (.inr 0)) (q22 : ¬ (h7.1 v9 9 = (0 : Int32))) (q23 : ¬ (l2 = (0 : Int32))) (q24 : h7.2.2 l0 8 = some v10) (q25 : xm_V X P d 150 [.ref v10, .ref v6, .int (h7.1 v9 9)] h7 (some (.int r11)) h11) (q26 : X.1[v10]? = some (.inr 1)) : xm_E X P d co_X10_packs 0 [some (.ref l0), some (.int l1), some (.int l2), none] [] h (some (.int r11)) h11 := by
  refine xm_E_s r_X10_packs_0 rfl rfl ?_
  refine xm_E_s r_X10_packs_1 rfl (xm_T_gr rfl q0 rfl rfl q1) ?_
  refine xm_E_cv [.ref v0] [] r_X10_packs_2 rfl rfl (Nat.le_of_ble_eq_true rfl) (xm_rc q3 (by decide)) rfl q2 ?_
  refine xm_E_s r_X10_packs_3 rfl rfl ?_
  refine xm_E_t q4 ?_
  refine xm_E_s r_X10_packs_4 rfl rfl ?_
  refine xm_E_cs [.int l1] [] r_X10_packs_5 rfl rfl rfl (Nat.le_of_ble_eq_true rfl) rfl q5 ?_
  refine xm_E_s r_X10_packs_6 rfl rfl ?_
  refine xm_E_f q6 ?_
  refine xm_E_s r_X10_packs_7 rfl rfl ?_
  refine xm_E_cs [.int l2] [] r_X10_packs_8 rfl rfl rfl (Nat.le_of_ble_eq_true rfl) rfl q7 ?_
  refine xm_E_s r_X10_packs_9 rfl rfl ?_
  refine xm_E_f q8 ?_
  refine xm_E_s r_X10_packs_12 rfl rfl ?_
  refine xm_E_s r_X10_packs_13 rfl (xm_T_gr rfl q0 rfl rfl q9) ?_
  refine xm_E_s r_X10_packs_14 rfl rfl ?_
  refine xm_E_s r_X10_packs_15 rfl (xm_T_aald rfl q10 q12 q11 q13) ?_
  refine xm_E_s (ls1 := [some (.ref l0), some (.int l1), some (.int l2), some (.ref v6)]) r_X10_packs_16 rfl rfl ?_
  refine xm_E_s r_X10_packs_17 rfl rfl ?_
  refine xm_E_s r_X10_packs_18 rfl (xm_T_gi rfl q14 rfl (Or.inr rfl)) ?_
  refine xm_E_s r_X10_packs_19 rfl rfl ?_
  refine xm_E_f q15 ?_
  refine xm_E_s r_X10_packs_22 rfl rfl ?_
  refine xm_E_cv [.ref v6] [] r_X10_packs_23 rfl rfl (Nat.le_of_ble_eq_true rfl) (xm_rc q14 (by decide)) rfl q16 ?_
  refine xm_E_s r_X10_packs_24 rfl rfl ?_
  refine xm_E_t q17 ?_
  refine xm_E_s r_X10_packs_27 rfl rfl ?_
  refine xm_E_s r_X10_packs_28 rfl (xm_T_gr rfl q0 rfl rfl q18) ?_
  refine xm_E_s r_X10_packs_29 rfl (xm_T_gr rfl q19 rfl rfl q20) ?_
  refine xm_E_s r_X10_packs_30 rfl (xm_T_gi rfl q21 rfl (Or.inl rfl)) ?_
  refine xm_E_s r_X10_packs_31 rfl rfl ?_
  refine xm_E_f q22 ?_
  refine xm_E_s r_X10_packs_34 rfl rfl ?_
  refine xm_E_s r_X10_packs_35 rfl rfl ?_
  refine xm_E_f q23 ?_
  refine xm_E_s r_X10_packs_45 rfl rfl ?_
  refine xm_E_s r_X10_packs_46 rfl (xm_T_gr rfl q0 rfl rfl q24) ?_
  refine xm_E_s r_X10_packs_47 rfl rfl ?_
  refine xm_E_s r_X10_packs_48 rfl rfl ?_
  refine xm_E_s r_X10_packs_49 rfl (xm_T_gr rfl q0 rfl rfl q18) ?_
  refine xm_E_s r_X10_packs_50 rfl (xm_T_gr rfl q19 rfl rfl q20) ?_
  refine xm_E_s r_X10_packs_51 rfl (xm_T_gi rfl q21 rfl (Or.inl rfl)) ?_
  refine xm_E_cv [.ref v10, .ref v6, .int (h7.1 v9 9)] [] r_X10_packs_52 rfl rfl (Nat.le_of_ble_eq_true rfl) (xm_rc q26 (by decide)) rfl q25 ?_
  exact xm_E_iret r_X10_packs_53 rfl rfl
theorem p_X10_packs_0_6 {X : xm_X} {P : List xm_M} {d : Nat} {h : xm_H} {l0 : Nat} {l1 : Int32} {l2 : Int32} {v0 : Nat} {h1 : xm_H} {r1 : Int32} {h2 : xm_H} {r2 : Int32} {h3 : xm_H} {r3 : Int32} {v4 : Nat} {n5 : Nat} {b5 : Nat} {v6 : Nat} {h7 : xm_H} {r7 : Int32} (q0 : X.1[l0]? = some (.inr 9)) (q1 : h.2.2 l0 1 = some v0) (q2 : xm_V X P d 36 [.ref v0] h (some (.int r1)) h1) (q3 : X.1[v0]? = some (.inr 8)) (q4 : r1 = (0 : Int32)) (q5 : xm_V X P d 68 [.int l1] h1 (some (.int r2)) h2) (q6 : ¬ (r2 = (0 : Int32))) (q7 : xm_V X P d 127 [.int l2] h2 (some (.int r3)) h3) (q8 : ¬ (r3 = (0 : Int32))) (q9 : h3.2.2 l0 4 = some v4) (q10 : X.1[v4]? = some (.inl (b5, n5))) (q11 : ¬ (l1 < 0 ∨ n5 ≤ l1.toNatClampNeg)) (q12 : b5 = 4 ∨ b5 = 5) (q13 : h3.2.2 v4 l1.toNatClampNeg = some v6) (q14 : X.1[v6]? = some (.inr 2)) (q15 : ¬ (h3.1 v6 1 = (0 : Int32))) (q16 : xm_V X P d 147 [.ref v6] h3 (some (.int r7)) h7) (q17 : ¬ (r7 = (0 : Int32))) : xm_E X P d co_X10_packs 0 [some (.ref l0), some (.int l1), some (.int l2), none] [] h (some (.int (-2 : Int32))) h7 := by
  refine xm_E_s r_X10_packs_0 rfl rfl ?_
  refine xm_E_s r_X10_packs_1 rfl (xm_T_gr rfl q0 rfl rfl q1) ?_
  refine xm_E_cv [.ref v0] [] r_X10_packs_2 rfl rfl (Nat.le_of_ble_eq_true rfl) (xm_rc q3 (by decide)) rfl q2 ?_
  refine xm_E_s r_X10_packs_3 rfl rfl ?_
  refine xm_E_t q4 ?_
  refine xm_E_s r_X10_packs_4 rfl rfl ?_
  refine xm_E_cs [.int l1] [] r_X10_packs_5 rfl rfl rfl (Nat.le_of_ble_eq_true rfl) rfl q5 ?_
  refine xm_E_s r_X10_packs_6 rfl rfl ?_
  refine xm_E_f q6 ?_
  refine xm_E_s r_X10_packs_7 rfl rfl ?_
  refine xm_E_cs [.int l2] [] r_X10_packs_8 rfl rfl rfl (Nat.le_of_ble_eq_true rfl) rfl q7 ?_
  refine xm_E_s r_X10_packs_9 rfl rfl ?_
  refine xm_E_f q8 ?_
  refine xm_E_s r_X10_packs_12 rfl rfl ?_
  refine xm_E_s r_X10_packs_13 rfl (xm_T_gr rfl q0 rfl rfl q9) ?_
  refine xm_E_s r_X10_packs_14 rfl rfl ?_
  refine xm_E_s r_X10_packs_15 rfl (xm_T_aald rfl q10 q12 q11 q13) ?_
  refine xm_E_s (ls1 := [some (.ref l0), some (.int l1), some (.int l2), some (.ref v6)]) r_X10_packs_16 rfl rfl ?_
  refine xm_E_s r_X10_packs_17 rfl rfl ?_
  refine xm_E_s r_X10_packs_18 rfl (xm_T_gi rfl q14 rfl (Or.inr rfl)) ?_
  refine xm_E_s r_X10_packs_19 rfl rfl ?_
  refine xm_E_f q15 ?_
  refine xm_E_s r_X10_packs_22 rfl rfl ?_
  refine xm_E_cv [.ref v6] [] r_X10_packs_23 rfl rfl (Nat.le_of_ble_eq_true rfl) (xm_rc q14 (by decide)) rfl q16 ?_
  refine xm_E_s r_X10_packs_24 rfl rfl ?_
  refine xm_E_f q17 ?_
  refine xm_E_s r_X10_packs_25 rfl rfl ?_
  exact xm_E_iret r_X10_packs_26 rfl rfl
theorem p_X10_packs_0_7 {X : xm_X} {P : List xm_M} {d : Nat} {h : xm_H} {l0 : Nat} {l1 : Int32} {l2 : Int32} {v0 : Nat} {h1 : xm_H} {r1 : Int32} (q0 : X.1[l0]? = some (.inr 9)) (q1 : h.2.2 l0 1 = some v0) (q2 : xm_V X P d 36 [.ref v0] h (some (.int r1)) h1) (q3 : X.1[v0]? = some (.inr 8)) (q4 : ¬ (r1 = (0 : Int32))) : xm_E X P d co_X10_packs 0 [some (.ref l0), some (.int l1), some (.int l2), none] [] h (some (.int (-2 : Int32))) h1 := by
  refine xm_E_s r_X10_packs_0 rfl rfl ?_
  refine xm_E_s r_X10_packs_1 rfl (xm_T_gr rfl q0 rfl rfl q1) ?_
  refine xm_E_cv [.ref v0] [] r_X10_packs_2 rfl rfl (Nat.le_of_ble_eq_true rfl) (xm_rc q3 (by decide)) rfl q2 ?_
  refine xm_E_s r_X10_packs_3 rfl rfl ?_
  refine xm_E_f q4 ?_
  refine xm_E_s r_X10_packs_10 rfl rfl ?_
  exact xm_E_iret r_X10_packs_11 rfl rfl
theorem r_X10_thin_0 : co_X10_thin[0]? = some ((0, .aload_n 0, 0, 0, 0, 0, 0, 0, []) : xm_I) := rfl
theorem r_X10_thin_1 : co_X10_thin[1]? = some ((1, .getfield 19, 482, 9, 1, 2, 0, 0, []) : xm_I) := rfl
theorem r_X10_thin_2 : co_X10_thin[2]? = some ((4, .invokevirtual 113, 696, 36, 1, 8, 0, 0, []) : xm_I) := rfl
theorem r_X10_thin_3 : co_X10_thin[3]? = some ((7, .ifCond .eq 6, 0, 0, 6, 0, 0, 0, []) : xm_I) := rfl
theorem r_X10_thin_4 : co_X10_thin[4]? = some ((10, .bipush (-2), 0, 0, 0, 0, (-2), 0, []) : xm_I) := rfl
theorem r_X10_thin_5 : co_X10_thin[5]? = some ((12, .ireturn, 0, 0, 0, 0, 0, 0, []) : xm_I) := rfl
theorem r_X10_thin_6 : co_X10_thin[6]? = some ((13, .aload_n 0, 0, 0, 0, 0, 0, 0, []) : xm_I) := rfl
theorem r_X10_thin_7 : co_X10_thin[7]? = some ((14, .getfield 19, 482, 9, 1, 2, 0, 0, []) : xm_I) := rfl
theorem r_X10_thin_8 : co_X10_thin[8]? = some ((17, .getfield 103, 305, 8, 0, 2, 0, 0, []) : xm_I) := rfl
theorem r_X10_thin_9 : co_X10_thin[9]? = some ((20, .aload_n 0, 0, 0, 0, 0, 0, 0, []) : xm_I) := rfl
theorem r_X10_thin_10 : co_X10_thin[10]? = some ((21, .getfield 19, 482, 9, 1, 2, 0, 0, []) : xm_I) := rfl
theorem r_X10_thin_11 : co_X10_thin[11]? = some ((24, .getfield 116, 311, 8, 3, 0, 0, 0, []) : xm_I) := rfl
theorem r_X10_thin_12 : co_X10_thin[12]? = some ((27, .invokevirtual 304, 725, 44, 2, 0, 0, 0, []) : xm_I) := rfl
theorem r_X10_thin_13 : co_X10_thin[13]? = some ((30, .istore_n 1, 0, 0, 0, 0, 0, 0, []) : xm_I) := rfl
theorem r_X10_thin_14 : co_X10_thin[14]? = some ((31, .aload_n 0, 0, 0, 0, 0, 0, 0, []) : xm_I) := rfl
theorem r_X10_thin_15 : co_X10_thin[15]? = some ((32, .getfield 19, 482, 9, 1, 2, 0, 0, []) : xm_I) := rfl
theorem r_X10_thin_16 : co_X10_thin[16]? = some ((35, .getfield 103, 305, 8, 0, 2, 0, 0, []) : xm_I) := rfl
theorem r_X10_thin_17 : co_X10_thin[17]? = some ((38, .getfield 307, 237, 0, 9, 0, 0, 0, []) : xm_I) := rfl
theorem r_X10_thin_18 : co_X10_thin[18]? = some ((41, .ifCond .eq 7, 0, 0, 21, 0, 0, 0, []) : xm_I) := rfl
theorem r_X10_thin_19 : co_X10_thin[19]? = some ((44, .iload_n 1, 0, 0, 0, 0, 0, 0, []) : xm_I) := rfl
theorem r_X10_thin_20 : co_X10_thin[20]? = some ((45, .ifCond .gt 5, 0, 0, 23, 0, 0, 0, []) : xm_I) := rfl
theorem r_X10_thin_21 : co_X10_thin[21]? = some ((48, .iconst (-1), 0, 0, 0, 0, (-1), 0, []) : xm_I) := rfl
theorem r_X10_thin_22 : co_X10_thin[22]? = some ((49, .ireturn, 0, 0, 0, 0, 0, 0, []) : xm_I) := rfl
theorem r_X10_thin_23 : co_X10_thin[23]? = some ((50, .aload_n 0, 0, 0, 0, 0, 0, 0, []) : xm_I) := rfl
theorem r_X10_thin_24 : co_X10_thin[24]? = some ((51, .getfield 19, 482, 9, 1, 2, 0, 0, []) : xm_I) := rfl
theorem r_X10_thin_25 : co_X10_thin[25]? = some ((54, .getfield 103, 305, 8, 0, 2, 0, 0, []) : xm_I) := rfl
theorem r_X10_thin_26 : co_X10_thin[26]? = some ((57, .getfield 307, 237, 0, 9, 0, 0, 0, []) : xm_I) := rfl
theorem r_X10_thin_27 : co_X10_thin[27]? = some ((60, .aload_n 0, 0, 0, 0, 0, 0, 0, []) : xm_I) := rfl
theorem r_X10_thin_28 : co_X10_thin[28]? = some ((61, .getfield 19, 482, 9, 1, 2, 0, 0, []) : xm_I) := rfl
theorem r_X10_thin_29 : co_X10_thin[29]? = some ((64, .getfield 103, 305, 8, 0, 2, 0, 0, []) : xm_I) := rfl
theorem r_X10_thin_30 : co_X10_thin[30]? = some ((67, .getfield 307, 237, 0, 9, 0, 0, 0, []) : xm_I) := rfl
theorem r_X10_thin_31 : co_X10_thin[31]? = some ((70, .iload_n 1, 0, 0, 0, 0, 0, 0, []) : xm_I) := rfl
theorem r_X10_thin_32 : co_X10_thin[32]? = some ((71, .idiv, 0, 0, 0, 0, 0, 0, []) : xm_I) := rfl
theorem r_X10_thin_33 : co_X10_thin[33]? = some ((72, .iconst 1, 0, 0, 0, 0, 1, 0, []) : xm_I) := rfl
theorem r_X10_thin_34 : co_X10_thin[34]? = some ((73, .iadd, 0, 0, 0, 0, 0, 0, []) : xm_I) := rfl
theorem r_X10_thin_35 : co_X10_thin[35]? = some ((74, .idiv, 0, 0, 0, 0, 0, 0, []) : xm_I) := rfl
theorem r_X10_thin_36 : co_X10_thin[36]? = some ((75, .istore_n 2, 0, 0, 0, 0, 0, 0, []) : xm_I) := rfl
theorem r_X10_thin_37 : co_X10_thin[37]? = some ((76, .iload_n 2, 0, 0, 0, 0, 0, 0, []) : xm_I) := rfl
theorem r_X10_thin_38 : co_X10_thin[38]? = some ((77, .ifCond .ne 7, 0, 0, 41, 0, 0, 0, []) : xm_I) := rfl
theorem r_X10_thin_39 : co_X10_thin[39]? = some ((80, .iconst (-1), 0, 0, 0, 0, (-1), 0, []) : xm_I) := rfl
theorem r_X10_thin_40 : co_X10_thin[40]? = some ((81, .goto 6, 0, 0, 44, 0, 0, 0, []) : xm_I) := rfl
theorem r_X10_thin_41 : co_X10_thin[41]? = some ((84, .iload_n 1, 0, 0, 0, 0, 0, 0, []) : xm_I) := rfl
theorem r_X10_thin_42 : co_X10_thin[42]? = some ((85, .iload_n 2, 0, 0, 0, 0, 0, 0, []) : xm_I) := rfl
theorem r_X10_thin_43 : co_X10_thin[43]? = some ((86, .isub, 0, 0, 0, 0, 0, 0, []) : xm_I) := rfl
theorem r_X10_thin_44 : co_X10_thin[44]? = some ((87, .ireturn, 0, 0, 0, 0, 0, 0, []) : xm_I) := rfl
theorem p_X10_thin_0_0 {X : xm_X} {P : List xm_M} {d : Nat} {h : xm_H} {l0 : Nat} {v0 : Nat} {h1 : xm_H} {r1 : Int32} {v2 : Nat} {v3 : Nat} {h4 : xm_H} {r4 : Int32} {v5 : Nat} {v6 : Nat} (q0 : X.1[l0]? = some (.inr 9)) (q1 : h.2.2 l0 1 = some v0) (q2 : xm_V X P d 36 [.ref v0] h (some (.int r1)) h1) (q3 : X.1[v0]? = some (.inr 8)) (q4 : r1 = (0 : Int32)) (q5 : h1.2.2 l0 1 = some v2) (q6 : X.1[v2]? = some (.inr 8)) (q7 : h1.2.2 v2 0 = some v3) (q8 : xm_V X P d 44 [.ref v3, .int (h1.1 v2 3)] h1 (some (.int r4)) h4) (q9 : X.1[v3]? = some (.inr 0)) (q10 : h4.2.2 l0 1 = some v5) (q11 : X.1[v5]? = some (.inr 8)) (q12 : h4.2.2 v5 0 = some v6) (q13 : X.1[v6]? = some (.inr 0)) (q14 : h4.1 v6 9 = (0 : Int32)) : xm_E X P d co_X10_thin 0 [some (.ref l0), none, none] [] h (some (.int (-1 : Int32))) h4 := by
  refine xm_E_s r_X10_thin_0 rfl rfl ?_
  refine xm_E_s r_X10_thin_1 rfl (xm_T_gr rfl q0 rfl rfl q1) ?_
  refine xm_E_cv [.ref v0] [] r_X10_thin_2 rfl rfl (Nat.le_of_ble_eq_true rfl) (xm_rc q3 (by decide)) rfl q2 ?_
  refine xm_E_s r_X10_thin_3 rfl rfl ?_
  refine xm_E_t q4 ?_
  refine xm_E_s r_X10_thin_6 rfl rfl ?_
  refine xm_E_s r_X10_thin_7 rfl (xm_T_gr rfl q0 rfl rfl q5) ?_
  refine xm_E_s r_X10_thin_8 rfl (xm_T_gr rfl q6 rfl rfl q7) ?_
  refine xm_E_s r_X10_thin_9 rfl rfl ?_
  refine xm_E_s r_X10_thin_10 rfl (xm_T_gr rfl q0 rfl rfl q5) ?_
  refine xm_E_s r_X10_thin_11 rfl (xm_T_gi rfl q6 rfl (Or.inl rfl)) ?_
  refine xm_E_cv [.ref v3, .int (h1.1 v2 3)] [] r_X10_thin_12 rfl rfl (Nat.le_of_ble_eq_true rfl) (xm_rc q9 (by decide)) rfl q8 ?_
  refine xm_E_s (ls1 := [some (.ref l0), some (.int r4), none]) r_X10_thin_13 rfl rfl ?_
  refine xm_E_s r_X10_thin_14 rfl rfl ?_
  refine xm_E_s r_X10_thin_15 rfl (xm_T_gr rfl q0 rfl rfl q10) ?_
  refine xm_E_s r_X10_thin_16 rfl (xm_T_gr rfl q11 rfl rfl q12) ?_
  refine xm_E_s r_X10_thin_17 rfl (xm_T_gi rfl q13 rfl (Or.inl rfl)) ?_
  refine xm_E_s r_X10_thin_18 rfl rfl ?_
  refine xm_E_t q14 ?_
  refine xm_E_s r_X10_thin_21 rfl rfl ?_
  exact xm_E_iret r_X10_thin_22 rfl rfl
theorem p_X10_thin_0_1 {X : xm_X} {P : List xm_M} {d : Nat} {h : xm_H} {l0 : Nat} {v0 : Nat} {h1 : xm_H} {r1 : Int32} {v2 : Nat} {v3 : Nat} {h4 : xm_H} {r4 : Int32} {v5 : Nat} {v6 : Nat} (q0 : X.1[l0]? = some (.inr 9)) (q1 : h.2.2 l0 1 = some v0) (q2 : xm_V X P d 36 [.ref v0] h (some (.int r1)) h1) (q3 : X.1[v0]? = some (.inr 8)) (q4 : r1 = (0 : Int32)) (q5 : h1.2.2 l0 1 = some v2) (q6 : X.1[v2]? = some (.inr 8)) (q7 : h1.2.2 v2 0 = some v3) (q8 : xm_V X P d 44 [.ref v3, .int (h1.1 v2 3)] h1 (some (.int r4)) h4) (q9 : X.1[v3]? = some (.inr 0)) (q10 : h4.2.2 l0 1 = some v5) (q11 : X.1[v5]? = some (.inr 8)) (q12 : h4.2.2 v5 0 = some v6) (q13 : X.1[v6]? = some (.inr 0)) (q14 : ¬ (h4.1 v6 9 = (0 : Int32))) (q15 : (0 : Int32) < r4) (q16 : ¬ r4 = 0) (q17 : ¬ (((h4.1 v6 9) / r4) + (1 : Int32)) = 0) (q18 : (h4.1 v6 9) / (((h4.1 v6 9) / r4) + (1 : Int32)) = (0 : Int32)) : xm_E X P d co_X10_thin 0 [some (.ref l0), none, none] [] h (some (.int (-1 : Int32))) h4 := by
  refine xm_E_s r_X10_thin_0 rfl rfl ?_
  refine xm_E_s r_X10_thin_1 rfl (xm_T_gr rfl q0 rfl rfl q1) ?_
  refine xm_E_cv [.ref v0] [] r_X10_thin_2 rfl rfl (Nat.le_of_ble_eq_true rfl) (xm_rc q3 (by decide)) rfl q2 ?_
  refine xm_E_s r_X10_thin_3 rfl rfl ?_
  refine xm_E_t q4 ?_
  refine xm_E_s r_X10_thin_6 rfl rfl ?_
  refine xm_E_s r_X10_thin_7 rfl (xm_T_gr rfl q0 rfl rfl q5) ?_
  refine xm_E_s r_X10_thin_8 rfl (xm_T_gr rfl q6 rfl rfl q7) ?_
  refine xm_E_s r_X10_thin_9 rfl rfl ?_
  refine xm_E_s r_X10_thin_10 rfl (xm_T_gr rfl q0 rfl rfl q5) ?_
  refine xm_E_s r_X10_thin_11 rfl (xm_T_gi rfl q6 rfl (Or.inl rfl)) ?_
  refine xm_E_cv [.ref v3, .int (h1.1 v2 3)] [] r_X10_thin_12 rfl rfl (Nat.le_of_ble_eq_true rfl) (xm_rc q9 (by decide)) rfl q8 ?_
  refine xm_E_s (ls1 := [some (.ref l0), some (.int r4), none]) r_X10_thin_13 rfl rfl ?_
  refine xm_E_s r_X10_thin_14 rfl rfl ?_
  refine xm_E_s r_X10_thin_15 rfl (xm_T_gr rfl q0 rfl rfl q10) ?_
  refine xm_E_s r_X10_thin_16 rfl (xm_T_gr rfl q11 rfl rfl q12) ?_
  refine xm_E_s r_X10_thin_17 rfl (xm_T_gi rfl q13 rfl (Or.inl rfl)) ?_
  refine xm_E_s r_X10_thin_18 rfl rfl ?_
  refine xm_E_f q14 ?_
  refine xm_E_s r_X10_thin_19 rfl rfl ?_
  refine xm_E_s r_X10_thin_20 rfl rfl ?_
  refine xm_E_t q15 ?_
  refine xm_E_s r_X10_thin_23 rfl rfl ?_
  refine xm_E_s r_X10_thin_24 rfl (xm_T_gr rfl q0 rfl rfl q10) ?_
  refine xm_E_s r_X10_thin_25 rfl (xm_T_gr rfl q11 rfl rfl q12) ?_
  refine xm_E_s r_X10_thin_26 rfl (xm_T_gi rfl q13 rfl (Or.inl rfl)) ?_
  refine xm_E_s r_X10_thin_27 rfl rfl ?_
  refine xm_E_s r_X10_thin_28 rfl (xm_T_gr rfl q0 rfl rfl q10) ?_
  refine xm_E_s r_X10_thin_29 rfl (xm_T_gr rfl q11 rfl rfl q12) ?_
  refine xm_E_s r_X10_thin_30 rfl (xm_T_gi rfl q13 rfl (Or.inl rfl)) ?_
  refine xm_E_s r_X10_thin_31 rfl rfl ?_
  refine xm_E_s r_X10_thin_32 rfl (xm_T_idiv rfl q16) ?_
  refine xm_E_s r_X10_thin_33 rfl rfl ?_
  refine xm_E_s r_X10_thin_34 rfl rfl ?_
  refine xm_E_s r_X10_thin_35 rfl (xm_T_idiv rfl q17) ?_
  refine xm_E_s (ls1 := [some (.ref l0), some (.int r4), some (.int ((h4.1 v6 9) / (((h4.1 v6 9) / r4) + (1 : Int32))))]) r_X10_thin_36 rfl rfl ?_
  refine xm_E_s r_X10_thin_37 rfl rfl ?_
  refine xm_E_s r_X10_thin_38 rfl rfl ?_
  refine xm_E_t q18 ?_
  refine xm_E_s r_X10_thin_39 rfl rfl ?_
  refine xm_E_s r_X10_thin_40 rfl rfl ?_
  exact xm_E_iret r_X10_thin_44 rfl rfl
theorem p_X10_thin_0_2 {X : xm_X} {P : List xm_M} {d : Nat} {h : xm_H} {l0 : Nat} {v0 : Nat} {h1 : xm_H} {r1 : Int32} {v2 : Nat} {v3 : Nat} {h4 : xm_H} {r4 : Int32} {v5 : Nat} {v6 : Nat} (q0 : X.1[l0]? = some (.inr 9)) (q1 : h.2.2 l0 1 = some v0) (q2 : xm_V X P d 36 [.ref v0] h (some (.int r1)) h1) (q3 : X.1[v0]? = some (.inr 8)) (q4 : r1 = (0 : Int32)) (q5 : h1.2.2 l0 1 = some v2) (q6 : X.1[v2]? = some (.inr 8)) (q7 : h1.2.2 v2 0 = some v3) (q8 : xm_V X P d 44 [.ref v3, .int (h1.1 v2 3)] h1 (some (.int r4)) h4) (q9 : X.1[v3]? = some (.inr 0)) (q10 : h4.2.2 l0 1 = some v5) (q11 : X.1[v5]? = some (.inr 8)) (q12 : h4.2.2 v5 0 = some v6) (q13 : X.1[v6]? = some (.inr 0)) (q14 : ¬ (h4.1 v6 9 = (0 : Int32))) (q15 : (0 : Int32) < r4) (q16 : ¬ r4 = 0) (q17 : ¬ (((h4.1 v6 9) / r4) + (1 : Int32)) = 0) (q18 : ¬ ((h4.1 v6 9) / (((h4.1 v6 9) / r4) + (1 : Int32)) = (0 : Int32))) : xm_E X P d co_X10_thin 0 [some (.ref l0), none, none] [] h (some (.int (r4 - ((h4.1 v6 9) / (((h4.1 v6 9) / r4) + (1 : Int32)))))) h4 := by
  refine xm_E_s r_X10_thin_0 rfl rfl ?_
  refine xm_E_s r_X10_thin_1 rfl (xm_T_gr rfl q0 rfl rfl q1) ?_
  refine xm_E_cv [.ref v0] [] r_X10_thin_2 rfl rfl (Nat.le_of_ble_eq_true rfl) (xm_rc q3 (by decide)) rfl q2 ?_
  refine xm_E_s r_X10_thin_3 rfl rfl ?_
  refine xm_E_t q4 ?_
  refine xm_E_s r_X10_thin_6 rfl rfl ?_
  refine xm_E_s r_X10_thin_7 rfl (xm_T_gr rfl q0 rfl rfl q5) ?_
  refine xm_E_s r_X10_thin_8 rfl (xm_T_gr rfl q6 rfl rfl q7) ?_
  refine xm_E_s r_X10_thin_9 rfl rfl ?_
  refine xm_E_s r_X10_thin_10 rfl (xm_T_gr rfl q0 rfl rfl q5) ?_
  refine xm_E_s r_X10_thin_11 rfl (xm_T_gi rfl q6 rfl (Or.inl rfl)) ?_
  refine xm_E_cv [.ref v3, .int (h1.1 v2 3)] [] r_X10_thin_12 rfl rfl (Nat.le_of_ble_eq_true rfl) (xm_rc q9 (by decide)) rfl q8 ?_
  refine xm_E_s (ls1 := [some (.ref l0), some (.int r4), none]) r_X10_thin_13 rfl rfl ?_
  refine xm_E_s r_X10_thin_14 rfl rfl ?_
  refine xm_E_s r_X10_thin_15 rfl (xm_T_gr rfl q0 rfl rfl q10) ?_
  refine xm_E_s r_X10_thin_16 rfl (xm_T_gr rfl q11 rfl rfl q12) ?_
  refine xm_E_s r_X10_thin_17 rfl (xm_T_gi rfl q13 rfl (Or.inl rfl)) ?_
  refine xm_E_s r_X10_thin_18 rfl rfl ?_
  refine xm_E_f q14 ?_
  refine xm_E_s r_X10_thin_19 rfl rfl ?_
  refine xm_E_s r_X10_thin_20 rfl rfl ?_
  refine xm_E_t q15 ?_
  refine xm_E_s r_X10_thin_23 rfl rfl ?_
  refine xm_E_s r_X10_thin_24 rfl (xm_T_gr rfl q0 rfl rfl q10) ?_
  refine xm_E_s r_X10_thin_25 rfl (xm_T_gr rfl q11 rfl rfl q12) ?_
  refine xm_E_s r_X10_thin_26 rfl (xm_T_gi rfl q13 rfl (Or.inl rfl)) ?_
  refine xm_E_s r_X10_thin_27 rfl rfl ?_
  refine xm_E_s r_X10_thin_28 rfl (xm_T_gr rfl q0 rfl rfl q10) ?_
  refine xm_E_s r_X10_thin_29 rfl (xm_T_gr rfl q11 rfl rfl q12) ?_
  refine xm_E_s r_X10_thin_30 rfl (xm_T_gi rfl q13 rfl (Or.inl rfl)) ?_
  refine xm_E_s r_X10_thin_31 rfl rfl ?_
  refine xm_E_s r_X10_thin_32 rfl (xm_T_idiv rfl q16) ?_
  refine xm_E_s r_X10_thin_33 rfl rfl ?_
  refine xm_E_s r_X10_thin_34 rfl rfl ?_
  refine xm_E_s r_X10_thin_35 rfl (xm_T_idiv rfl q17) ?_
  refine xm_E_s (ls1 := [some (.ref l0), some (.int r4), some (.int ((h4.1 v6 9) / (((h4.1 v6 9) / r4) + (1 : Int32))))]) r_X10_thin_36 rfl rfl ?_
  refine xm_E_s r_X10_thin_37 rfl rfl ?_
  refine xm_E_s r_X10_thin_38 rfl rfl ?_
  refine xm_E_f q18 ?_
  refine xm_E_s r_X10_thin_41 rfl rfl ?_
  refine xm_E_s r_X10_thin_42 rfl rfl ?_
  refine xm_E_s r_X10_thin_43 rfl rfl ?_
  exact xm_E_iret r_X10_thin_44 rfl rfl
theorem p_X10_thin_0_3 {X : xm_X} {P : List xm_M} {d : Nat} {h : xm_H} {l0 : Nat} {v0 : Nat} {h1 : xm_H} {r1 : Int32} {v2 : Nat} {v3 : Nat} {h4 : xm_H} {r4 : Int32} {v5 : Nat} {v6 : Nat} (q0 : X.1[l0]? = some (.inr 9)) (q1 : h.2.2 l0 1 = some v0) (q2 : xm_V X P d 36 [.ref v0] h (some (.int r1)) h1) (q3 : X.1[v0]? = some (.inr 8)) (q4 : r1 = (0 : Int32)) (q5 : h1.2.2 l0 1 = some v2) (q6 : X.1[v2]? = some (.inr 8)) (q7 : h1.2.2 v2 0 = some v3) (q8 : xm_V X P d 44 [.ref v3, .int (h1.1 v2 3)] h1 (some (.int r4)) h4) (q9 : X.1[v3]? = some (.inr 0)) (q10 : h4.2.2 l0 1 = some v5) (q11 : X.1[v5]? = some (.inr 8)) (q12 : h4.2.2 v5 0 = some v6) (q13 : X.1[v6]? = some (.inr 0)) (q14 : ¬ (h4.1 v6 9 = (0 : Int32))) (q15 : ¬ ((0 : Int32) < r4)) : xm_E X P d co_X10_thin 0 [some (.ref l0), none, none] [] h (some (.int (-1 : Int32))) h4 := by
  refine xm_E_s r_X10_thin_0 rfl rfl ?_
  refine xm_E_s r_X10_thin_1 rfl (xm_T_gr rfl q0 rfl rfl q1) ?_
  refine xm_E_cv [.ref v0] [] r_X10_thin_2 rfl rfl (Nat.le_of_ble_eq_true rfl) (xm_rc q3 (by decide)) rfl q2 ?_
  refine xm_E_s r_X10_thin_3 rfl rfl ?_
  refine xm_E_t q4 ?_
  refine xm_E_s r_X10_thin_6 rfl rfl ?_
  refine xm_E_s r_X10_thin_7 rfl (xm_T_gr rfl q0 rfl rfl q5) ?_
  refine xm_E_s r_X10_thin_8 rfl (xm_T_gr rfl q6 rfl rfl q7) ?_
  refine xm_E_s r_X10_thin_9 rfl rfl ?_
  refine xm_E_s r_X10_thin_10 rfl (xm_T_gr rfl q0 rfl rfl q5) ?_
  refine xm_E_s r_X10_thin_11 rfl (xm_T_gi rfl q6 rfl (Or.inl rfl)) ?_
  refine xm_E_cv [.ref v3, .int (h1.1 v2 3)] [] r_X10_thin_12 rfl rfl (Nat.le_of_ble_eq_true rfl) (xm_rc q9 (by decide)) rfl q8 ?_
  refine xm_E_s (ls1 := [some (.ref l0), some (.int r4), none]) r_X10_thin_13 rfl rfl ?_
  refine xm_E_s r_X10_thin_14 rfl rfl ?_
  refine xm_E_s r_X10_thin_15 rfl (xm_T_gr rfl q0 rfl rfl q10) ?_
  refine xm_E_s r_X10_thin_16 rfl (xm_T_gr rfl q11 rfl rfl q12) ?_
  refine xm_E_s r_X10_thin_17 rfl (xm_T_gi rfl q13 rfl (Or.inl rfl)) ?_
  refine xm_E_s r_X10_thin_18 rfl rfl ?_
  refine xm_E_f q14 ?_
  refine xm_E_s r_X10_thin_19 rfl rfl ?_
  refine xm_E_s r_X10_thin_20 rfl rfl ?_
  refine xm_E_f q15 ?_
  refine xm_E_s r_X10_thin_21 rfl rfl ?_
  exact xm_E_iret r_X10_thin_22 rfl rfl
theorem p_X10_thin_0_4 {X : xm_X} {P : List xm_M} {d : Nat} {h : xm_H} {l0 : Nat} {v0 : Nat} {h1 : xm_H} {r1 : Int32} (q0 : X.1[l0]? = some (.inr 9)) (q1 : h.2.2 l0 1 = some v0) (q2 : xm_V X P d 36 [.ref v0] h (some (.int r1)) h1) (q3 : X.1[v0]? = some (.inr 8)) (q4 : ¬ (r1 = (0 : Int32))) : xm_E X P d co_X10_thin 0 [some (.ref l0), none, none] [] h (some (.int (-2 : Int32))) h1 := by
  refine xm_E_s r_X10_thin_0 rfl rfl ?_
  refine xm_E_s r_X10_thin_1 rfl (xm_T_gr rfl q0 rfl rfl q1) ?_
  refine xm_E_cv [.ref v0] [] r_X10_thin_2 rfl rfl (Nat.le_of_ble_eq_true rfl) (xm_rc q3 (by decide)) rfl q2 ?_
  refine xm_E_s r_X10_thin_3 rfl rfl ?_
  refine xm_E_f q4 ?_
  refine xm_E_s r_X10_thin_4 rfl rfl ?_
  exact xm_E_iret r_X10_thin_5 rfl rfl
theorem r_X10_learn_0 : co_X10_learn[0]? = some ((0, .aload_n 0, 0, 0, 0, 0, 0, 0, []) : xm_I) := rfl
theorem r_X10_learn_1 : co_X10_learn[1]? = some ((1, .iload_n 1, 0, 0, 0, 0, 0, 0, []) : xm_I) := rfl
theorem r_X10_learn_2 : co_X10_learn[2]? = some ((2, .invokevirtual 327, 1211, 154, 2, 9, 0, 0, []) : xm_I) := rfl
theorem r_X10_learn_3 : co_X10_learn[3]? = some ((5, .ifCond .eq 14, 0, 0, 9, 0, 0, 0, []) : xm_I) := rfl
theorem r_X10_learn_4 : co_X10_learn[4]? = some ((8, .iload_n 2, 0, 0, 0, 0, 0, 0, []) : xm_I) := rfl
theorem r_X10_learn_5 : co_X10_learn[5]? = some ((9, .ifCond .lt 10, 0, 0, 9, 0, 0, 0, []) : xm_I) := rfl
theorem r_X10_learn_6 : co_X10_learn[6]? = some ((12, .iload_n 2, 0, 0, 0, 0, 0, 0, []) : xm_I) := rfl
theorem r_X10_learn_7 : co_X10_learn[7]? = some ((13, .sipush 999, 0, 0, 0, 0, 999, 0, []) : xm_I) := rfl
theorem r_X10_learn_8 : co_X10_learn[8]? = some ((16, .if_icmp .le 6, 0, 0, 11, 0, 0, 0, []) : xm_I) := rfl
theorem r_X10_learn_9 : co_X10_learn[9]? = some ((19, .bipush (-2), 0, 0, 0, 0, (-2), 0, []) : xm_I) := rfl
theorem r_X10_learn_10 : co_X10_learn[10]? = some ((21, .ireturn, 0, 0, 0, 0, 0, 0, []) : xm_I) := rfl
theorem r_X10_learn_11 : co_X10_learn[11]? = some ((22, .aload_n 0, 0, 0, 0, 0, 0, 0, []) : xm_I) := rfl
theorem r_X10_learn_12 : co_X10_learn[12]? = some ((23, .getfield 19, 482, 9, 1, 2, 0, 0, []) : xm_I) := rfl
theorem r_X10_learn_13 : co_X10_learn[13]? = some ((26, .getfield 103, 305, 8, 0, 2, 0, 0, []) : xm_I) := rfl
theorem r_X10_learn_14 : co_X10_learn[14]? = some ((29, .iload_n 1, 0, 0, 0, 0, 0, 0, []) : xm_I) := rfl
theorem r_X10_learn_15 : co_X10_learn[15]? = some ((30, .iload_n 2, 0, 0, 0, 0, 0, 0, []) : xm_I) := rfl
theorem r_X10_learn_16 : co_X10_learn[16]? = some ((31, .invokevirtual 330, 1215, 155, 3, 0, 0, 0, []) : xm_I) := rfl
theorem r_X10_learn_17 : co_X10_learn[17]? = some ((34, .ireturn, 0, 0, 0, 0, 0, 0, []) : xm_I) := rfl
theorem p_X10_learn_0_0 {X : xm_X} {P : List xm_M} {d : Nat} {h : xm_H} {l0 : Nat} {l1 : Int32} {l2 : Int32} {h0 : xm_H} {r0 : Int32} (q0 : xm_V X P d 154 [.ref l0, .int l1] h (some (.int r0)) h0) (q1 : X.1[l0]? = some (.inr 9)) (q2 : r0 = (0 : Int32)) : xm_E X P d co_X10_learn 0 [some (.ref l0), some (.int l1), some (.int l2)] [] h (some (.int (-2 : Int32))) h0 := by
  refine xm_E_s r_X10_learn_0 rfl rfl ?_
  refine xm_E_s r_X10_learn_1 rfl rfl ?_
  refine xm_E_cv [.ref l0, .int l1] [] r_X10_learn_2 rfl rfl (Nat.le_of_ble_eq_true rfl) (xm_rc q1 (by decide)) rfl q0 ?_
  refine xm_E_s r_X10_learn_3 rfl rfl ?_
  refine xm_E_t q2 ?_
  refine xm_E_s r_X10_learn_9 rfl rfl ?_
  exact xm_E_iret r_X10_learn_10 rfl rfl
theorem p_X10_learn_0_1 {X : xm_X} {P : List xm_M} {d : Nat} {h : xm_H} {l0 : Nat} {l1 : Int32} {l2 : Int32} {h0 : xm_H} {r0 : Int32} (q0 : xm_V X P d 154 [.ref l0, .int l1] h (some (.int r0)) h0) (q1 : X.1[l0]? = some (.inr 9)) (q2 : ¬ (r0 = (0 : Int32))) (q3 : l2 < (0 : Int32)) : xm_E X P d co_X10_learn 0 [some (.ref l0), some (.int l1), some (.int l2)] [] h (some (.int (-2 : Int32))) h0 := by
  refine xm_E_s r_X10_learn_0 rfl rfl ?_
  refine xm_E_s r_X10_learn_1 rfl rfl ?_
  refine xm_E_cv [.ref l0, .int l1] [] r_X10_learn_2 rfl rfl (Nat.le_of_ble_eq_true rfl) (xm_rc q1 (by decide)) rfl q0 ?_
  refine xm_E_s r_X10_learn_3 rfl rfl ?_
  refine xm_E_f q2 ?_
  refine xm_E_s r_X10_learn_4 rfl rfl ?_
  refine xm_E_s r_X10_learn_5 rfl rfl ?_
  refine xm_E_t q3 ?_
  refine xm_E_s r_X10_learn_9 rfl rfl ?_
  exact xm_E_iret r_X10_learn_10 rfl rfl
theorem p_X10_learn_0_2 {X : xm_X} {P : List xm_M} {d : Nat} {h : xm_H} {l0 : Nat} {l1 : Int32} {l2 : Int32} {h0 : xm_H} {r0 : Int32} {v1 : Nat} {v2 : Nat} {h3 : xm_H} {r3 : Int32} (q0 : xm_V X P d 154 [.ref l0, .int l1] h (some (.int r0)) h0) (q1 : X.1[l0]? = some (.inr 9)) (q2 : ¬ (r0 = (0 : Int32))) (q3 : ¬ (l2 < (0 : Int32))) (q4 : l2 ≤ (999 : Int32)) (q5 : h0.2.2 l0 1 = some v1) (q6 : X.1[v1]? = some (.inr 8)) (q7 : h0.2.2 v1 0 = some v2) (q8 : xm_V X P d 155 [.ref v2, .int l1, .int l2] h0 (some (.int r3)) h3) (q9 : X.1[v2]? = some (.inr 0)) : xm_E X P d co_X10_learn 0 [some (.ref l0), some (.int l1), some (.int l2)] [] h (some (.int r3)) h3 := by
  refine xm_E_s r_X10_learn_0 rfl rfl ?_
  refine xm_E_s r_X10_learn_1 rfl rfl ?_
  refine xm_E_cv [.ref l0, .int l1] [] r_X10_learn_2 rfl rfl (Nat.le_of_ble_eq_true rfl) (xm_rc q1 (by decide)) rfl q0 ?_
  refine xm_E_s r_X10_learn_3 rfl rfl ?_
  refine xm_E_f q2 ?_
  refine xm_E_s r_X10_learn_4 rfl rfl ?_
  refine xm_E_s r_X10_learn_5 rfl rfl ?_
  refine xm_E_f q3 ?_
  refine xm_E_s r_X10_learn_6 rfl rfl ?_
  refine xm_E_s r_X10_learn_7 rfl rfl ?_
  refine xm_E_s r_X10_learn_8 rfl rfl ?_
  refine xm_E_t q4 ?_
  refine xm_E_s r_X10_learn_11 rfl rfl ?_
  refine xm_E_s r_X10_learn_12 rfl (xm_T_gr rfl q1 rfl rfl q5) ?_
  refine xm_E_s r_X10_learn_13 rfl (xm_T_gr rfl q6 rfl rfl q7) ?_
  refine xm_E_s r_X10_learn_14 rfl rfl ?_
  refine xm_E_s r_X10_learn_15 rfl rfl ?_
  refine xm_E_cv [.ref v2, .int l1, .int l2] [] r_X10_learn_16 rfl rfl (Nat.le_of_ble_eq_true rfl) (xm_rc q9 (by decide)) rfl q8 ?_
  exact xm_E_iret r_X10_learn_17 rfl rfl
theorem p_X10_learn_0_3 {X : xm_X} {P : List xm_M} {d : Nat} {h : xm_H} {l0 : Nat} {l1 : Int32} {l2 : Int32} {h0 : xm_H} {r0 : Int32} (q0 : xm_V X P d 154 [.ref l0, .int l1] h (some (.int r0)) h0) (q1 : X.1[l0]? = some (.inr 9)) (q2 : ¬ (r0 = (0 : Int32))) (q3 : ¬ (l2 < (0 : Int32))) (q4 : ¬ (l2 ≤ (999 : Int32))) : xm_E X P d co_X10_learn 0 [some (.ref l0), some (.int l1), some (.int l2)] [] h (some (.int (-2 : Int32))) h0 := by
  refine xm_E_s r_X10_learn_0 rfl rfl ?_
  refine xm_E_s r_X10_learn_1 rfl rfl ?_
  refine xm_E_cv [.ref l0, .int l1] [] r_X10_learn_2 rfl rfl (Nat.le_of_ble_eq_true rfl) (xm_rc q1 (by decide)) rfl q0 ?_
  refine xm_E_s r_X10_learn_3 rfl rfl ?_
  refine xm_E_f q2 ?_
  refine xm_E_s r_X10_learn_4 rfl rfl ?_
  refine xm_E_s r_X10_learn_5 rfl rfl ?_
  refine xm_E_f q3 ?_
  refine xm_E_s r_X10_learn_6 rfl rfl ?_
  refine xm_E_s r_X10_learn_7 rfl rfl ?_
  refine xm_E_s r_X10_learn_8 rfl rfl ?_
  refine xm_E_f q4 ?_
  refine xm_E_s r_X10_learn_9 rfl rfl ?_
  exact xm_E_iret r_X10_learn_10 rfl rfl
theorem r_X10_isPair_0 : co_X10_isPair[0]? = some ((0, .iload_n 1, 0, 0, 0, 0, 0, 0, []) : xm_I) := rfl
theorem r_X10_isPair_1 : co_X10_isPair[1]? = some ((1, .ifCond .lt 21, 0, 0, 10, 0, 0, 0, []) : xm_I) := rfl
theorem r_X10_isPair_2 : co_X10_isPair[2]? = some ((4, .iload_n 1, 0, 0, 0, 0, 0, 0, []) : xm_I) := rfl
theorem r_X10_isPair_3 : co_X10_isPair[3]? = some ((5, .aload_n 0, 0, 0, 0, 0, 0, 0, []) : xm_I) := rfl
theorem r_X10_isPair_4 : co_X10_isPair[4]? = some ((6, .getfield 19, 482, 9, 1, 2, 0, 0, []) : xm_I) := rfl
theorem r_X10_isPair_5 : co_X10_isPair[5]? = some ((9, .getfield 103, 305, 8, 0, 2, 0, 0, []) : xm_I) := rfl
theorem r_X10_isPair_6 : co_X10_isPair[6]? = some ((12, .getfield 336, 241, 0, 10, 0, 0, 0, []) : xm_I) := rfl
theorem r_X10_isPair_7 : co_X10_isPair[7]? = some ((15, .if_icmp .ge 7, 0, 0, 10, 0, 0, 0, []) : xm_I) := rfl
theorem r_X10_isPair_8 : co_X10_isPair[8]? = some ((18, .iconst 1, 0, 0, 0, 0, 1, 0, []) : xm_I) := rfl
theorem r_X10_isPair_9 : co_X10_isPair[9]? = some ((19, .goto 4, 0, 0, 11, 0, 0, 0, []) : xm_I) := rfl
theorem r_X10_isPair_10 : co_X10_isPair[10]? = some ((22, .iconst 0, 0, 0, 0, 0, 0, 0, []) : xm_I) := rfl
theorem r_X10_isPair_11 : co_X10_isPair[11]? = some ((23, .ireturn, 0, 0, 0, 3, 0, 0, []) : xm_I) := rfl
theorem p_X10_isPair_0_0 {X : xm_X} {P : List xm_M} {d : Nat} {h : xm_H} {l0 : Nat} {l1 : Int32} (q0 : l1 < (0 : Int32)) : xm_E X P d co_X10_isPair 0 [some (.ref l0), some (.int l1)] [] h (some (.int (0 : Int32))) h := by
  refine xm_E_s r_X10_isPair_0 rfl rfl ?_
  refine xm_E_s r_X10_isPair_1 rfl rfl ?_
  refine xm_E_t q0 ?_
  refine xm_E_s r_X10_isPair_10 rfl rfl ?_
  exact xm_E_iret r_X10_isPair_11 rfl rfl
theorem p_X10_isPair_0_1 {X : xm_X} {P : List xm_M} {d : Nat} {h : xm_H} {l0 : Nat} {l1 : Int32} {v0 : Nat} {v1 : Nat} (q0 : ¬ (l1 < (0 : Int32))) (q1 : X.1[l0]? = some (.inr 9)) (q2 : h.2.2 l0 1 = some v0) (q3 : X.1[v0]? = some (.inr 8)) (q4 : h.2.2 v0 0 = some v1) (q5 : X.1[v1]? = some (.inr 0)) (q6 : h.1 v1 10 ≤ l1) : xm_E X P d co_X10_isPair 0 [some (.ref l0), some (.int l1)] [] h (some (.int (0 : Int32))) h := by
  refine xm_E_s r_X10_isPair_0 rfl rfl ?_
  refine xm_E_s r_X10_isPair_1 rfl rfl ?_
  refine xm_E_f q0 ?_
  refine xm_E_s r_X10_isPair_2 rfl rfl ?_
  refine xm_E_s r_X10_isPair_3 rfl rfl ?_
  refine xm_E_s r_X10_isPair_4 rfl (xm_T_gr rfl q1 rfl rfl q2) ?_
  refine xm_E_s r_X10_isPair_5 rfl (xm_T_gr rfl q3 rfl rfl q4) ?_
  refine xm_E_s r_X10_isPair_6 rfl (xm_T_gi rfl q5 rfl (Or.inl rfl)) ?_
  refine xm_E_s r_X10_isPair_7 rfl rfl ?_
  refine xm_E_t q6 ?_
  refine xm_E_s r_X10_isPair_10 rfl rfl ?_
  exact xm_E_iret r_X10_isPair_11 rfl rfl
theorem p_X10_isPair_0_2 {X : xm_X} {P : List xm_M} {d : Nat} {h : xm_H} {l0 : Nat} {l1 : Int32} {v0 : Nat} {v1 : Nat} (q0 : ¬ (l1 < (0 : Int32))) (q1 : X.1[l0]? = some (.inr 9)) (q2 : h.2.2 l0 1 = some v0) (q3 : X.1[v0]? = some (.inr 8)) (q4 : h.2.2 v0 0 = some v1) (q5 : X.1[v1]? = some (.inr 0)) (q6 : ¬ (h.1 v1 10 ≤ l1)) : xm_E X P d co_X10_isPair 0 [some (.ref l0), some (.int l1)] [] h (some (.int (1 : Int32))) h := by
  refine xm_E_s r_X10_isPair_0 rfl rfl ?_
  refine xm_E_s r_X10_isPair_1 rfl rfl ?_
  refine xm_E_f q0 ?_
  refine xm_E_s r_X10_isPair_2 rfl rfl ?_
  refine xm_E_s r_X10_isPair_3 rfl rfl ?_
  refine xm_E_s r_X10_isPair_4 rfl (xm_T_gr rfl q1 rfl rfl q2) ?_
  refine xm_E_s r_X10_isPair_5 rfl (xm_T_gr rfl q3 rfl rfl q4) ?_
  refine xm_E_s r_X10_isPair_6 rfl (xm_T_gi rfl q5 rfl (Or.inl rfl)) ?_
  refine xm_E_s r_X10_isPair_7 rfl rfl ?_
  refine xm_E_f q6 ?_
  refine xm_E_s r_X10_isPair_8 rfl rfl ?_
  refine xm_E_s r_X10_isPair_9 rfl rfl ?_
  exact xm_E_iret r_X10_isPair_11 rfl rfl
theorem r_X10_skilled_0 : co_X10_skilled[0]? = some ((0, .aload_n 0, 0, 0, 0, 0, 0, 0, []) : xm_I) := rfl
theorem r_X10_skilled_1 : co_X10_skilled[1]? = some ((1, .iload_n 1, 0, 0, 0, 0, 0, 0, []) : xm_I) := rfl
theorem r_X10_skilled_2 : co_X10_skilled[2]? = some ((2, .invokevirtual 327, 1211, 154, 2, 9, 0, 0, []) : xm_I) := rfl
theorem r_X10_skilled_3 : co_X10_skilled[3]? = some ((5, .ifCond .ne 6, 0, 0, 6, 0, 0, 0, []) : xm_I) := rfl
theorem r_X10_skilled_4 : co_X10_skilled[4]? = some ((8, .bipush (-2), 0, 0, 0, 0, (-2), 0, []) : xm_I) := rfl
theorem r_X10_skilled_5 : co_X10_skilled[5]? = some ((10, .ireturn, 0, 0, 0, 0, 0, 0, []) : xm_I) := rfl
theorem r_X10_skilled_6 : co_X10_skilled[6]? = some ((11, .iconst 0, 0, 0, 0, 0, 0, 0, []) : xm_I) := rfl
theorem r_X10_skilled_7 : co_X10_skilled[7]? = some ((12, .istore_n 3, 0, 0, 0, 0, 0, 0, []) : xm_I) := rfl
theorem r_X10_skilled_8 : co_X10_skilled[8]? = some ((13, .iload_n 3, 0, 0, 0, 0, 0, 0, []) : xm_I) := rfl
theorem r_X10_skilled_9 : co_X10_skilled[9]? = some ((14, .sipush 999, 0, 0, 0, 0, 999, 0, []) : xm_I) := rfl
theorem r_X10_skilled_10 : co_X10_skilled[10]? = some ((17, .if_icmp .ge 27, 0, 0, 23, 0, 0, 0, []) : xm_I) := rfl
theorem r_X10_skilled_11 : co_X10_skilled[11]? = some ((20, .aload_n 0, 0, 0, 0, 0, 0, 0, []) : xm_I) := rfl
theorem r_X10_skilled_12 : co_X10_skilled[12]? = some ((21, .getfield 19, 482, 9, 1, 2, 0, 0, []) : xm_I) := rfl
theorem r_X10_skilled_13 : co_X10_skilled[13]? = some ((24, .getfield 103, 305, 8, 0, 2, 0, 0, []) : xm_I) := rfl
theorem r_X10_skilled_14 : co_X10_skilled[14]? = some ((27, .iload_n 1, 0, 0, 0, 0, 0, 0, []) : xm_I) := rfl
theorem r_X10_skilled_15 : co_X10_skilled[15]? = some ((28, .iload_n 3, 0, 0, 0, 0, 0, 0, []) : xm_I) := rfl
theorem r_X10_skilled_16 : co_X10_skilled[16]? = some ((29, .invokevirtual 333, 1227, 156, 3, 0, 0, 0, []) : xm_I) := rfl
theorem r_X10_skilled_17 : co_X10_skilled[17]? = some ((32, .iload_n 2, 0, 0, 0, 0, 0, 0, []) : xm_I) := rfl
theorem r_X10_skilled_18 : co_X10_skilled[18]? = some ((33, .if_icmp .gt 5, 0, 0, 21, 0, 0, 0, []) : xm_I) := rfl
theorem r_X10_skilled_19 : co_X10_skilled[19]? = some ((36, .iload_n 3, 0, 0, 0, 0, 0, 0, []) : xm_I) := rfl
theorem r_X10_skilled_20 : co_X10_skilled[20]? = some ((37, .ireturn, 0, 0, 0, 0, 0, 0, []) : xm_I) := rfl
theorem r_X10_skilled_21 : co_X10_skilled[21]? = some ((38, .iinc 3 1, 0, 0, 0, 0, 1, 0, []) : xm_I) := rfl
theorem r_X10_skilled_22 : co_X10_skilled[22]? = some ((41, .goto (-28), 0, 0, 8, 0, 0, 0, []) : xm_I) := rfl
theorem r_X10_skilled_23 : co_X10_skilled[23]? = some ((44, .iconst (-1), 0, 0, 0, 0, (-1), 0, []) : xm_I) := rfl
theorem r_X10_skilled_24 : co_X10_skilled[24]? = some ((45, .ireturn, 0, 0, 0, 0, 0, 0, []) : xm_I) := rfl
theorem p_X10_skilled_0_0 {X : xm_X} {P : List xm_M} {d : Nat} {h : xm_H} {l0 : Nat} {l1 : Int32} {l2 : Int32} {h0 : xm_H} {r0 : Int32} (q0 : xm_V X P d 154 [.ref l0, .int l1] h (some (.int r0)) h0) (q1 : X.1[l0]? = some (.inr 9)) (q2 : r0 = (0 : Int32)) : xm_E X P d co_X10_skilled 0 [some (.ref l0), some (.int l1), some (.int l2), none] [] h (some (.int (-2 : Int32))) h0 := by
  refine xm_E_s r_X10_skilled_0 rfl rfl ?_
  refine xm_E_s r_X10_skilled_1 rfl rfl ?_
  refine xm_E_cv [.ref l0, .int l1] [] r_X10_skilled_2 rfl rfl (Nat.le_of_ble_eq_true rfl) (xm_rc q1 (by decide)) rfl q0 ?_
  refine xm_E_s r_X10_skilled_3 rfl rfl ?_
  refine xm_E_t q2 ?_
  refine xm_E_s r_X10_skilled_4 rfl rfl ?_
  exact xm_E_iret r_X10_skilled_5 rfl rfl
theorem p_X10_skilled_0_1 {X : xm_X} {P : List xm_M} {d : Nat} {h : xm_H} {l0 : Nat} {l1 : Int32} {l2 : Int32} {h0 : xm_H} {r0 : Int32} {ro : Option Value} {ho : xm_H} (q0 : xm_V X P d 154 [.ref l0, .int l1] h (some (.int r0)) h0) (q1 : X.1[l0]? = some (.inr 9)) (q2 : ¬ (r0 = (0 : Int32))) (K : xm_E X P d co_X10_skilled 8 [some (.ref l0), some (.int l1), some (.int l2), some (.int (0 : Int32))] [] h0 ro ho) : xm_E X P d co_X10_skilled 0 [some (.ref l0), some (.int l1), some (.int l2), none] [] h ro ho := by
  refine xm_E_s r_X10_skilled_0 rfl rfl ?_
  refine xm_E_s r_X10_skilled_1 rfl rfl ?_
  refine xm_E_cv [.ref l0, .int l1] [] r_X10_skilled_2 rfl rfl (Nat.le_of_ble_eq_true rfl) (xm_rc q1 (by decide)) rfl q0 ?_
  refine xm_E_s r_X10_skilled_3 rfl rfl ?_
  refine xm_E_f q2 ?_
  refine xm_E_s r_X10_skilled_6 rfl rfl ?_
  refine xm_E_s (ls1 := [some (.ref l0), some (.int l1), some (.int l2), some (.int (0 : Int32))]) r_X10_skilled_7 rfl rfl ?_
  exact K
theorem p_X10_skilled_8_0 {X : xm_X} {P : List xm_M} {d : Nat} {h : xm_H} {l0 : Nat} {l1 : Int32} {l2 : Int32} {l3 : Int32} (q0 : (999 : Int32) ≤ l3) : xm_E X P d co_X10_skilled 8 [some (.ref l0), some (.int l1), some (.int l2), some (.int l3)] [] h (some (.int (-1 : Int32))) h := by
  refine xm_E_s r_X10_skilled_8 rfl rfl ?_
  refine xm_E_s r_X10_skilled_9 rfl rfl ?_
  refine xm_E_s r_X10_skilled_10 rfl rfl ?_
  refine xm_E_t q0 ?_
  refine xm_E_s r_X10_skilled_23 rfl rfl ?_
  exact xm_E_iret r_X10_skilled_24 rfl rfl
theorem p_X10_skilled_8_1 {X : xm_X} {P : List xm_M} {d : Nat} {h : xm_H} {l0 : Nat} {l1 : Int32} {l2 : Int32} {l3 : Int32} {v0 : Nat} {v1 : Nat} {h2 : xm_H} {r2 : Int32} {ro : Option Value} {ho : xm_H} (q0 : ¬ ((999 : Int32) ≤ l3)) (q1 : X.1[l0]? = some (.inr 9)) (q2 : h.2.2 l0 1 = some v0) (q3 : X.1[v0]? = some (.inr 8)) (q4 : h.2.2 v0 0 = some v1) (q5 : xm_V X P d 156 [.ref v1, .int l1, .int l3] h (some (.int r2)) h2) (q6 : X.1[v1]? = some (.inr 0)) (q7 : l2 < r2) (K : xm_E X P d co_X10_skilled 8 [some (.ref l0), some (.int l1), some (.int l2), some (.int (l3 + (1 : Int32)))] [] h2 ro ho) : xm_E X P d co_X10_skilled 8 [some (.ref l0), some (.int l1), some (.int l2), some (.int l3)] [] h ro ho := by
  refine xm_E_s r_X10_skilled_8 rfl rfl ?_
  refine xm_E_s r_X10_skilled_9 rfl rfl ?_
  refine xm_E_s r_X10_skilled_10 rfl rfl ?_
  refine xm_E_f q0 ?_
  refine xm_E_s r_X10_skilled_11 rfl rfl ?_
  refine xm_E_s r_X10_skilled_12 rfl (xm_T_gr rfl q1 rfl rfl q2) ?_
  refine xm_E_s r_X10_skilled_13 rfl (xm_T_gr rfl q3 rfl rfl q4) ?_
  refine xm_E_s r_X10_skilled_14 rfl rfl ?_
  refine xm_E_s r_X10_skilled_15 rfl rfl ?_
  refine xm_E_cv [.ref v1, .int l1, .int l3] [] r_X10_skilled_16 rfl rfl (Nat.le_of_ble_eq_true rfl) (xm_rc q6 (by decide)) rfl q5 ?_
  refine xm_E_s r_X10_skilled_17 rfl rfl ?_
  refine xm_E_s r_X10_skilled_18 rfl rfl ?_
  refine xm_E_t q7 ?_
  refine xm_E_s (ls1 := [some (.ref l0), some (.int l1), some (.int l2), some (.int (l3 + (1 : Int32)))]) r_X10_skilled_21 rfl rfl ?_
  refine xm_E_s r_X10_skilled_22 rfl rfl ?_
  exact K
theorem p_X10_skilled_8_2 {X : xm_X} {P : List xm_M} {d : Nat} {h : xm_H} {l0 : Nat} {l1 : Int32} {l2 : Int32} {l3 : Int32} {v0 : Nat} {v1 : Nat} {h2 : xm_H} {r2 : Int32} (q0 : ¬ ((999 : Int32) ≤ l3)) (q1 : X.1[l0]? = some (.inr 9)) (q2 : h.2.2 l0 1 = some v0) (q3 : X.1[v0]? = some (.inr 8)) (q4 : h.2.2 v0 0 = some v1) (q5 : xm_V X P d 156 [.ref v1, .int l1, .int l3] h (some (.int r2)) h2) (q6 : X.1[v1]? = some (.inr 0)) (q7 : ¬ (l2 < r2)) : xm_E X P d co_X10_skilled 8 [some (.ref l0), some (.int l1), some (.int l2), some (.int l3)] [] h (some (.int l3)) h2 := by
  refine xm_E_s r_X10_skilled_8 rfl rfl ?_
  refine xm_E_s r_X10_skilled_9 rfl rfl ?_
  refine xm_E_s r_X10_skilled_10 rfl rfl ?_
  refine xm_E_f q0 ?_
  refine xm_E_s r_X10_skilled_11 rfl rfl ?_
  refine xm_E_s r_X10_skilled_12 rfl (xm_T_gr rfl q1 rfl rfl q2) ?_
  refine xm_E_s r_X10_skilled_13 rfl (xm_T_gr rfl q3 rfl rfl q4) ?_
  refine xm_E_s r_X10_skilled_14 rfl rfl ?_
  refine xm_E_s r_X10_skilled_15 rfl rfl ?_
  refine xm_E_cv [.ref v1, .int l1, .int l3] [] r_X10_skilled_16 rfl rfl (Nat.le_of_ble_eq_true rfl) (xm_rc q6 (by decide)) rfl q5 ?_
  refine xm_E_s r_X10_skilled_17 rfl rfl ?_
  refine xm_E_s r_X10_skilled_18 rfl rfl ?_
  refine xm_E_f q7 ?_
  refine xm_E_s r_X10_skilled_19 rfl rfl ?_
  exact xm_E_iret r_X10_skilled_20 rfl rfl
theorem r_X10_soonest_0 : co_X10_soonest[0]? = some ((0, .aload_n 0, 0, 0, 0, 0, 0, 0, []) : xm_I) := rfl
theorem r_X10_soonest_1 : co_X10_soonest[1]? = some ((1, .getfield 19, 482, 9, 1, 2, 0, 0, []) : xm_I) := rfl
theorem r_X10_soonest_2 : co_X10_soonest[2]? = some ((4, .invokevirtual 113, 696, 36, 1, 8, 0, 0, []) : xm_I) := rfl
theorem r_X10_soonest_3 : co_X10_soonest[3]? = some ((7, .ifCond .ne 15, 0, 0, 10, 0, 0, 0, []) : xm_I) := rfl
theorem r_X10_soonest_4 : co_X10_soonest[4]? = some ((10, .iload_n 1, 0, 0, 0, 0, 0, 0, []) : xm_I) := rfl
theorem r_X10_soonest_5 : co_X10_soonest[5]? = some ((11, .iconst 1, 0, 0, 0, 0, 1, 0, []) : xm_I) := rfl
theorem r_X10_soonest_6 : co_X10_soonest[6]? = some ((12, .if_icmp .lt 10, 0, 0, 10, 0, 0, 0, []) : xm_I) := rfl
theorem r_X10_soonest_7 : co_X10_soonest[7]? = some ((15, .iload_n 1, 0, 0, 0, 0, 0, 0, []) : xm_I) := rfl
theorem r_X10_soonest_8 : co_X10_soonest[8]? = some ((16, .sipush 999, 0, 0, 0, 0, 999, 0, []) : xm_I) := rfl
theorem r_X10_soonest_9 : co_X10_soonest[9]? = some ((19, .if_icmp .le 6, 0, 0, 12, 0, 0, 0, []) : xm_I) := rfl
theorem r_X10_soonest_10 : co_X10_soonest[10]? = some ((22, .bipush (-2), 0, 0, 0, 0, (-2), 0, []) : xm_I) := rfl
theorem r_X10_soonest_11 : co_X10_soonest[11]? = some ((24, .ireturn, 0, 0, 0, 0, 0, 0, []) : xm_I) := rfl
theorem r_X10_soonest_12 : co_X10_soonest[12]? = some ((25, .iconst (-1), 0, 0, 0, 0, (-1), 0, []) : xm_I) := rfl
theorem r_X10_soonest_13 : co_X10_soonest[13]? = some ((26, .istore_n 2, 0, 0, 0, 0, 0, 0, []) : xm_I) := rfl
theorem r_X10_soonest_14 : co_X10_soonest[14]? = some ((27, .ldc 212, 998, 0, 0, 0, 2147483647, 0, []) : xm_I) := rfl
theorem r_X10_soonest_15 : co_X10_soonest[15]? = some ((29, .istore_n 3, 0, 0, 0, 0, 0, 0, []) : xm_I) := rfl
theorem r_X10_soonest_16 : co_X10_soonest[16]? = some ((30, .iconst 0, 0, 0, 0, 0, 0, 0, []) : xm_I) := rfl
theorem r_X10_soonest_17 : co_X10_soonest[17]? = some ((31, .istore 4, 0, 0, 0, 0, 0, 0, []) : xm_I) := rfl
theorem r_X10_soonest_18 : co_X10_soonest[18]? = some ((33, .iload 4, 0, 0, 0, 0, 0, 0, []) : xm_I) := rfl
theorem r_X10_soonest_19 : co_X10_soonest[19]? = some ((35, .aload_n 0, 0, 0, 0, 0, 0, 0, []) : xm_I) := rfl
theorem r_X10_soonest_20 : co_X10_soonest[20]? = some ((36, .getfield 19, 482, 9, 1, 2, 0, 0, []) : xm_I) := rfl
theorem r_X10_soonest_21 : co_X10_soonest[21]? = some ((39, .getfield 103, 305, 8, 0, 2, 0, 0, []) : xm_I) := rfl
theorem r_X10_soonest_22 : co_X10_soonest[22]? = some ((42, .getfield 336, 241, 0, 10, 0, 0, 0, []) : xm_I) := rfl
theorem r_X10_soonest_23 : co_X10_soonest[23]? = some ((45, .if_icmp .ge 36, 0, 0, 40, 0, 0, 0, []) : xm_I) := rfl
theorem r_X10_soonest_24 : co_X10_soonest[24]? = some ((48, .aload_n 0, 0, 0, 0, 0, 0, 0, []) : xm_I) := rfl
theorem r_X10_soonest_25 : co_X10_soonest[25]? = some ((49, .getfield 19, 482, 9, 1, 2, 0, 0, []) : xm_I) := rfl
theorem r_X10_soonest_26 : co_X10_soonest[26]? = some ((52, .getfield 103, 305, 8, 0, 2, 0, 0, []) : xm_I) := rfl
theorem r_X10_soonest_27 : co_X10_soonest[27]? = some ((55, .iload 4, 0, 0, 0, 0, 0, 0, []) : xm_I) := rfl
theorem r_X10_soonest_28 : co_X10_soonest[28]? = some ((57, .iload_n 1, 0, 0, 0, 0, 0, 0, []) : xm_I) := rfl
theorem r_X10_soonest_29 : co_X10_soonest[29]? = some ((58, .invokevirtual 330, 1215, 155, 3, 0, 0, 0, []) : xm_I) := rfl
theorem r_X10_soonest_30 : co_X10_soonest[30]? = some ((61, .istore 5, 0, 0, 0, 0, 0, 0, []) : xm_I) := rfl
theorem r_X10_soonest_31 : co_X10_soonest[31]? = some ((63, .iload 5, 0, 0, 0, 0, 0, 0, []) : xm_I) := rfl
theorem r_X10_soonest_32 : co_X10_soonest[32]? = some ((65, .iload_n 3, 0, 0, 0, 0, 0, 0, []) : xm_I) := rfl
theorem r_X10_soonest_33 : co_X10_soonest[33]? = some ((66, .if_icmp .ge 9, 0, 0, 38, 0, 0, 0, []) : xm_I) := rfl
theorem r_X10_soonest_34 : co_X10_soonest[34]? = some ((69, .iload 5, 0, 0, 0, 0, 0, 0, []) : xm_I) := rfl
theorem r_X10_soonest_35 : co_X10_soonest[35]? = some ((71, .istore_n 3, 0, 0, 0, 0, 0, 0, []) : xm_I) := rfl
theorem r_X10_soonest_36 : co_X10_soonest[36]? = some ((72, .iload 4, 0, 0, 0, 0, 0, 0, []) : xm_I) := rfl
theorem r_X10_soonest_37 : co_X10_soonest[37]? = some ((74, .istore_n 2, 0, 0, 0, 0, 0, 0, []) : xm_I) := rfl
theorem r_X10_soonest_38 : co_X10_soonest[38]? = some ((75, .iinc 4 1, 0, 0, 0, 0, 1, 0, []) : xm_I) := rfl
theorem r_X10_soonest_39 : co_X10_soonest[39]? = some ((78, .goto (-45), 0, 0, 18, 0, 0, 0, []) : xm_I) := rfl
theorem r_X10_soonest_40 : co_X10_soonest[40]? = some ((81, .iload_n 2, 0, 0, 0, 0, 0, 0, []) : xm_I) := rfl
theorem r_X10_soonest_41 : co_X10_soonest[41]? = some ((82, .ireturn, 0, 0, 0, 0, 0, 0, []) : xm_I) := rfl
theorem p_X10_soonest_0_0 {X : xm_X} {P : List xm_M} {d : Nat} {h : xm_H} {l0 : Nat} {l1 : Int32} {v0 : Nat} {h1 : xm_H} {r1 : Int32} (q0 : X.1[l0]? = some (.inr 9)) (q1 : h.2.2 l0 1 = some v0) (q2 : xm_V X P d 36 [.ref v0] h (some (.int r1)) h1) (q3 : X.1[v0]? = some (.inr 8)) (q4 : r1 = (0 : Int32)) (q5 : l1 < (1 : Int32)) : xm_E X P d co_X10_soonest 0 [some (.ref l0), some (.int l1), none, none, none, none] [] h (some (.int (-2 : Int32))) h1 := by
  refine xm_E_s r_X10_soonest_0 rfl rfl ?_
  refine xm_E_s r_X10_soonest_1 rfl (xm_T_gr rfl q0 rfl rfl q1) ?_
  refine xm_E_cv [.ref v0] [] r_X10_soonest_2 rfl rfl (Nat.le_of_ble_eq_true rfl) (xm_rc q3 (by decide)) rfl q2 ?_
  refine xm_E_s r_X10_soonest_3 rfl rfl ?_
  refine xm_E_t q4 ?_
  refine xm_E_s r_X10_soonest_4 rfl rfl ?_
  refine xm_E_s r_X10_soonest_5 rfl rfl ?_
  refine xm_E_s r_X10_soonest_6 rfl rfl ?_
  refine xm_E_t q5 ?_
  refine xm_E_s r_X10_soonest_10 rfl rfl ?_
  exact xm_E_iret r_X10_soonest_11 rfl rfl
theorem p_X10_soonest_0_1 {X : xm_X} {P : List xm_M} {d : Nat} {h : xm_H} {l0 : Nat} {l1 : Int32} {v0 : Nat} {h1 : xm_H} {r1 : Int32} {ro : Option Value} {ho : xm_H} (q0 : X.1[l0]? = some (.inr 9)) (q1 : h.2.2 l0 1 = some v0) (q2 : xm_V X P d 36 [.ref v0] h (some (.int r1)) h1) (q3 : X.1[v0]? = some (.inr 8)) (q4 : r1 = (0 : Int32)) (q5 : ¬ (l1 < (1 : Int32))) (q6 : l1 ≤ (999 : Int32)) (K : xm_E X P d co_X10_soonest 18 [some (.ref l0), some (.int l1), some (.int (-1 : Int32)), some (.int (2147483647 : Int32)), some (.int (0 : Int32)), none] [] h1 ro ho) : xm_E X P d co_X10_soonest 0 [some (.ref l0), some (.int l1), none, none, none, none] [] h ro ho := by
  refine xm_E_s r_X10_soonest_0 rfl rfl ?_
  refine xm_E_s r_X10_soonest_1 rfl (xm_T_gr rfl q0 rfl rfl q1) ?_
  refine xm_E_cv [.ref v0] [] r_X10_soonest_2 rfl rfl (Nat.le_of_ble_eq_true rfl) (xm_rc q3 (by decide)) rfl q2 ?_
  refine xm_E_s r_X10_soonest_3 rfl rfl ?_
  refine xm_E_t q4 ?_
  refine xm_E_s r_X10_soonest_4 rfl rfl ?_
  refine xm_E_s r_X10_soonest_5 rfl rfl ?_
  refine xm_E_s r_X10_soonest_6 rfl rfl ?_
  refine xm_E_f q5 ?_
  refine xm_E_s r_X10_soonest_7 rfl rfl ?_
  refine xm_E_s r_X10_soonest_8 rfl rfl ?_
  refine xm_E_s r_X10_soonest_9 rfl rfl ?_
  refine xm_E_t q6 ?_
  refine xm_E_s r_X10_soonest_12 rfl rfl ?_
  refine xm_E_s (ls1 := [some (.ref l0), some (.int l1), some (.int (-1 : Int32)), none, none, none]) r_X10_soonest_13 rfl rfl ?_
  refine xm_E_s r_X10_soonest_14 rfl rfl ?_
  refine xm_E_s (ls1 := [some (.ref l0), some (.int l1), some (.int (-1 : Int32)), some (.int (2147483647 : Int32)), none, none]) r_X10_soonest_15 rfl rfl ?_
  refine xm_E_s r_X10_soonest_16 rfl rfl ?_
  refine xm_E_s (ls1 := [some (.ref l0), some (.int l1), some (.int (-1 : Int32)), some (.int (2147483647 : Int32)), some (.int (0 : Int32)), none]) r_X10_soonest_17 rfl rfl ?_
  exact K
theorem p_X10_soonest_0_2 {X : xm_X} {P : List xm_M} {d : Nat} {h : xm_H} {l0 : Nat} {l1 : Int32} {v0 : Nat} {h1 : xm_H} {r1 : Int32} (q0 : X.1[l0]? = some (.inr 9)) (q1 : h.2.2 l0 1 = some v0) (q2 : xm_V X P d 36 [.ref v0] h (some (.int r1)) h1) (q3 : X.1[v0]? = some (.inr 8)) (q4 : r1 = (0 : Int32)) (q5 : ¬ (l1 < (1 : Int32))) (q6 : ¬ (l1 ≤ (999 : Int32))) : xm_E X P d co_X10_soonest 0 [some (.ref l0), some (.int l1), none, none, none, none] [] h (some (.int (-2 : Int32))) h1 := by
  refine xm_E_s r_X10_soonest_0 rfl rfl ?_
  refine xm_E_s r_X10_soonest_1 rfl (xm_T_gr rfl q0 rfl rfl q1) ?_
  refine xm_E_cv [.ref v0] [] r_X10_soonest_2 rfl rfl (Nat.le_of_ble_eq_true rfl) (xm_rc q3 (by decide)) rfl q2 ?_
  refine xm_E_s r_X10_soonest_3 rfl rfl ?_
  refine xm_E_t q4 ?_
  refine xm_E_s r_X10_soonest_4 rfl rfl ?_
  refine xm_E_s r_X10_soonest_5 rfl rfl ?_
  refine xm_E_s r_X10_soonest_6 rfl rfl ?_
  refine xm_E_f q5 ?_
  refine xm_E_s r_X10_soonest_7 rfl rfl ?_
  refine xm_E_s r_X10_soonest_8 rfl rfl ?_
  refine xm_E_s r_X10_soonest_9 rfl rfl ?_
  refine xm_E_f q6 ?_
  refine xm_E_s r_X10_soonest_10 rfl rfl ?_
  exact xm_E_iret r_X10_soonest_11 rfl rfl
theorem p_X10_soonest_0_3 {X : xm_X} {P : List xm_M} {d : Nat} {h : xm_H} {l0 : Nat} {l1 : Int32} {v0 : Nat} {h1 : xm_H} {r1 : Int32} (q0 : X.1[l0]? = some (.inr 9)) (q1 : h.2.2 l0 1 = some v0) (q2 : xm_V X P d 36 [.ref v0] h (some (.int r1)) h1) (q3 : X.1[v0]? = some (.inr 8)) (q4 : ¬ (r1 = (0 : Int32))) : xm_E X P d co_X10_soonest 0 [some (.ref l0), some (.int l1), none, none, none, none] [] h (some (.int (-2 : Int32))) h1 := by
  refine xm_E_s r_X10_soonest_0 rfl rfl ?_
  refine xm_E_s r_X10_soonest_1 rfl (xm_T_gr rfl q0 rfl rfl q1) ?_
  refine xm_E_cv [.ref v0] [] r_X10_soonest_2 rfl rfl (Nat.le_of_ble_eq_true rfl) (xm_rc q3 (by decide)) rfl q2 ?_
  refine xm_E_s r_X10_soonest_3 rfl rfl ?_
  refine xm_E_f q4 ?_
  refine xm_E_s r_X10_soonest_10 rfl rfl ?_
  exact xm_E_iret r_X10_soonest_11 rfl rfl
theorem p_X10_soonest_18_0 {X : xm_X} {P : List xm_M} {d : Nat} {h : xm_H} {l0 : Nat} {l1 : Int32} {l2 : Int32} {l3 : Int32} {l4 : Int32} {l5 : Option Value} {v0 : Nat} {v1 : Nat} (q0 : X.1[l0]? = some (.inr 9)) (q1 : h.2.2 l0 1 = some v0) (q2 : X.1[v0]? = some (.inr 8)) (q3 : h.2.2 v0 0 = some v1) (q4 : X.1[v1]? = some (.inr 0)) (q5 : h.1 v1 10 ≤ l4) : xm_E X P d co_X10_soonest 18 [some (.ref l0), some (.int l1), some (.int l2), some (.int l3), some (.int l4), l5] [] h (some (.int l2)) h := by
  refine xm_E_s r_X10_soonest_18 rfl rfl ?_
  refine xm_E_s r_X10_soonest_19 rfl rfl ?_
  refine xm_E_s r_X10_soonest_20 rfl (xm_T_gr rfl q0 rfl rfl q1) ?_
  refine xm_E_s r_X10_soonest_21 rfl (xm_T_gr rfl q2 rfl rfl q3) ?_
  refine xm_E_s r_X10_soonest_22 rfl (xm_T_gi rfl q4 rfl (Or.inl rfl)) ?_
  refine xm_E_s r_X10_soonest_23 rfl rfl ?_
  refine xm_E_t q5 ?_
  refine xm_E_s r_X10_soonest_40 rfl rfl ?_
  exact xm_E_iret r_X10_soonest_41 rfl rfl
theorem p_X10_soonest_18_1 {X : xm_X} {P : List xm_M} {d : Nat} {h : xm_H} {l0 : Nat} {l1 : Int32} {l2 : Int32} {l3 : Int32} {l4 : Int32} {l5 : Option Value} {v0 : Nat} {v1 : Nat} {h2 : xm_H} {r2 : Int32} {ro : Option Value} {ho : xm_H} (q0 : X.1[l0]? = some (.inr 9)) (q1 : h.2.2 l0 1 = some v0) (q2 : X.1[v0]? = some (.inr 8)) (q3 : h.2.2 v0 0 = some v1) (q4 : X.1[v1]? = some (.inr 0)) (q5 : ¬ (h.1 v1 10 ≤ l4)) (q6 : xm_V X P d 155 [.ref v1, .int l4, .int l1] h (some (.int r2)) h2) (q7 : l3 ≤ r2) (K : xm_E X P d co_X10_soonest 18 [some (.ref l0), some (.int l1), some (.int l2), some (.int l3), some (.int (l4 + (1 : Int32))), some (.int r2)] [] h2 ro ho) : xm_E X P d co_X10_soonest 18 [some (.ref l0), some (.int l1), some (.int l2), some (.int l3), some (.int l4), l5] [] h ro ho := by
  refine xm_E_s r_X10_soonest_18 rfl rfl ?_
  refine xm_E_s r_X10_soonest_19 rfl rfl ?_
  refine xm_E_s r_X10_soonest_20 rfl (xm_T_gr rfl q0 rfl rfl q1) ?_
  refine xm_E_s r_X10_soonest_21 rfl (xm_T_gr rfl q2 rfl rfl q3) ?_
  refine xm_E_s r_X10_soonest_22 rfl (xm_T_gi rfl q4 rfl (Or.inl rfl)) ?_
  refine xm_E_s r_X10_soonest_23 rfl rfl ?_
  refine xm_E_f q5 ?_
  refine xm_E_s r_X10_soonest_24 rfl rfl ?_
  refine xm_E_s r_X10_soonest_25 rfl (xm_T_gr rfl q0 rfl rfl q1) ?_
  refine xm_E_s r_X10_soonest_26 rfl (xm_T_gr rfl q2 rfl rfl q3) ?_
  refine xm_E_s r_X10_soonest_27 rfl rfl ?_
  refine xm_E_s r_X10_soonest_28 rfl rfl ?_
  refine xm_E_cv [.ref v1, .int l4, .int l1] [] r_X10_soonest_29 rfl rfl (Nat.le_of_ble_eq_true rfl) (xm_rc q4 (by decide)) rfl q6 ?_
  refine xm_E_s (ls1 := [some (.ref l0), some (.int l1), some (.int l2), some (.int l3), some (.int l4), some (.int r2)]) r_X10_soonest_30 rfl rfl ?_
  refine xm_E_s r_X10_soonest_31 rfl rfl ?_
  refine xm_E_s r_X10_soonest_32 rfl rfl ?_
  refine xm_E_s r_X10_soonest_33 rfl rfl ?_
  refine xm_E_t q7 ?_
  refine xm_E_s (ls1 := [some (.ref l0), some (.int l1), some (.int l2), some (.int l3), some (.int (l4 + (1 : Int32))), some (.int r2)]) r_X10_soonest_38 rfl rfl ?_
  refine xm_E_s r_X10_soonest_39 rfl rfl ?_
  exact K
theorem p_X10_soonest_18_2 {X : xm_X} {P : List xm_M} {d : Nat} {h : xm_H} {l0 : Nat} {l1 : Int32} {l2 : Int32} {l3 : Int32} {l4 : Int32} {l5 : Option Value} {v0 : Nat} {v1 : Nat} {h2 : xm_H} {r2 : Int32} {ro : Option Value} {ho : xm_H} (q0 : X.1[l0]? = some (.inr 9)) (q1 : h.2.2 l0 1 = some v0) (q2 : X.1[v0]? = some (.inr 8)) (q3 : h.2.2 v0 0 = some v1) (q4 : X.1[v1]? = some (.inr 0)) (q5 : ¬ (h.1 v1 10 ≤ l4)) (q6 : xm_V X P d 155 [.ref v1, .int l4, .int l1] h (some (.int r2)) h2) (q7 : ¬ (l3 ≤ r2)) (K : xm_E X P d co_X10_soonest 18 [some (.ref l0), some (.int l1), some (.int l4), some (.int r2), some (.int (l4 + (1 : Int32))), some (.int r2)] [] h2 ro ho) : xm_E X P d co_X10_soonest 18 [some (.ref l0), some (.int l1), some (.int l2), some (.int l3), some (.int l4), l5] [] h ro ho := by
  refine xm_E_s r_X10_soonest_18 rfl rfl ?_
  refine xm_E_s r_X10_soonest_19 rfl rfl ?_
  refine xm_E_s r_X10_soonest_20 rfl (xm_T_gr rfl q0 rfl rfl q1) ?_
  refine xm_E_s r_X10_soonest_21 rfl (xm_T_gr rfl q2 rfl rfl q3) ?_
  refine xm_E_s r_X10_soonest_22 rfl (xm_T_gi rfl q4 rfl (Or.inl rfl)) ?_
  refine xm_E_s r_X10_soonest_23 rfl rfl ?_
  refine xm_E_f q5 ?_
  refine xm_E_s r_X10_soonest_24 rfl rfl ?_
  refine xm_E_s r_X10_soonest_25 rfl (xm_T_gr rfl q0 rfl rfl q1) ?_
  refine xm_E_s r_X10_soonest_26 rfl (xm_T_gr rfl q2 rfl rfl q3) ?_
  refine xm_E_s r_X10_soonest_27 rfl rfl ?_
  refine xm_E_s r_X10_soonest_28 rfl rfl ?_
  refine xm_E_cv [.ref v1, .int l4, .int l1] [] r_X10_soonest_29 rfl rfl (Nat.le_of_ble_eq_true rfl) (xm_rc q4 (by decide)) rfl q6 ?_
  refine xm_E_s (ls1 := [some (.ref l0), some (.int l1), some (.int l2), some (.int l3), some (.int l4), some (.int r2)]) r_X10_soonest_30 rfl rfl ?_
  refine xm_E_s r_X10_soonest_31 rfl rfl ?_
  refine xm_E_s r_X10_soonest_32 rfl rfl ?_
  refine xm_E_s r_X10_soonest_33 rfl rfl ?_
  refine xm_E_f q7 ?_
  refine xm_E_s r_X10_soonest_34 rfl rfl ?_
  refine xm_E_s (ls1 := [some (.ref l0), some (.int l1), some (.int l2), some (.int r2), some (.int l4), some (.int r2)]) r_X10_soonest_35 rfl rfl ?_
  refine xm_E_s r_X10_soonest_36 rfl rfl ?_
  refine xm_E_s (ls1 := [some (.ref l0), some (.int l1), some (.int l4), some (.int r2), some (.int l4), some (.int r2)]) r_X10_soonest_37 rfl rfl ?_
  refine xm_E_s (ls1 := [some (.ref l0), some (.int l1), some (.int l4), some (.int r2), some (.int (l4 + (1 : Int32))), some (.int r2)]) r_X10_soonest_38 rfl rfl ?_
  refine xm_E_s r_X10_soonest_39 rfl rfl ?_
  exact K
theorem r_X10_friday_0 : co_X10_friday[0]? = some ((0, .aload_n 0, 0, 0, 0, 0, 0, 0, []) : xm_I) := rfl
theorem r_X10_friday_1 : co_X10_friday[1]? = some ((1, .getfield 19, 482, 9, 1, 2, 0, 0, []) : xm_I) := rfl
theorem r_X10_friday_2 : co_X10_friday[2]? = some ((4, .invokevirtual 113, 696, 36, 1, 8, 0, 0, []) : xm_I) := rfl
theorem r_X10_friday_3 : co_X10_friday[3]? = some ((7, .ifCond .eq 8, 0, 0, 6, 0, 0, 0, []) : xm_I) := rfl
theorem r_X10_friday_4 : co_X10_friday[4]? = some ((10, .bipush (-2), 0, 0, 0, 0, (-2), 0, []) : xm_I) := rfl
theorem r_X10_friday_5 : co_X10_friday[5]? = some ((12, .goto 18, 0, 0, 13, 0, 0, 0, []) : xm_I) := rfl
theorem r_X10_friday_6 : co_X10_friday[6]? = some ((15, .aload_n 0, 0, 0, 0, 0, 0, 0, []) : xm_I) := rfl
theorem r_X10_friday_7 : co_X10_friday[7]? = some ((16, .getfield 57, 488, 9, 7, 2, 0, 0, []) : xm_I) := rfl
theorem r_X10_friday_8 : co_X10_friday[8]? = some ((19, .aload_n 0, 0, 0, 0, 0, 0, 0, []) : xm_I) := rfl
theorem r_X10_friday_9 : co_X10_friday[9]? = some ((20, .getfield 19, 482, 9, 1, 2, 0, 0, []) : xm_I) := rfl
theorem r_X10_friday_10 : co_X10_friday[10]? = some ((23, .getfield 103, 305, 8, 0, 2, 0, 0, []) : xm_I) := rfl
theorem r_X10_friday_11 : co_X10_friday[11]? = some ((26, .iconst (-1), 0, 0, 0, 0, (-1), 0, []) : xm_I) := rfl
theorem r_X10_friday_12 : co_X10_friday[12]? = some ((27, .invokevirtual 339, 1236, 160, 3, 4, 0, 0, []) : xm_I) := rfl
theorem r_X10_friday_13 : co_X10_friday[13]? = some ((30, .ireturn, 0, 0, 0, 0, 0, 0, []) : xm_I) := rfl
theorem p_X10_friday_0_0 {X : xm_X} {P : List xm_M} {d : Nat} {h : xm_H} {l0 : Nat} {v0 : Nat} {h1 : xm_H} {r1 : Int32} {v2 : Nat} {v3 : Nat} {v4 : Nat} {h5 : xm_H} {r5 : Int32} (q0 : X.1[l0]? = some (.inr 9)) (q1 : h.2.2 l0 1 = some v0) (q2 : xm_V X P d 36 [.ref v0] h (some (.int r1)) h1) (q3 : X.1[v0]? = some (.inr 8)) (q4 : r1 = (0 : Int32)) (q5 : h1.2.2 l0 7 = some v2) (q6 : h1.2.2 l0 1 = some v3) (q7 : X.1[v3]? = some (.inr 8)) (q8 : h1.2.2 v3 0 = some v4) (q9 : xm_V X P d 160 [.ref v2, .ref v4, .int (-1 : Int32)] h1 (some (.int r5)) h5) (q10 : X.1[v2]? = some (.inr 4)) : xm_E X P d co_X10_friday 0 [some (.ref l0)] [] h (some (.int r5)) h5 := by
  refine xm_E_s r_X10_friday_0 rfl rfl ?_
  refine xm_E_s r_X10_friday_1 rfl (xm_T_gr rfl q0 rfl rfl q1) ?_
  refine xm_E_cv [.ref v0] [] r_X10_friday_2 rfl rfl (Nat.le_of_ble_eq_true rfl) (xm_rc q3 (by decide)) rfl q2 ?_
  refine xm_E_s r_X10_friday_3 rfl rfl ?_
  refine xm_E_t q4 ?_
  refine xm_E_s r_X10_friday_6 rfl rfl ?_
  refine xm_E_s r_X10_friday_7 rfl (xm_T_gr rfl q0 rfl rfl q5) ?_
  refine xm_E_s r_X10_friday_8 rfl rfl ?_
  refine xm_E_s r_X10_friday_9 rfl (xm_T_gr rfl q0 rfl rfl q6) ?_
  refine xm_E_s r_X10_friday_10 rfl (xm_T_gr rfl q7 rfl rfl q8) ?_
  refine xm_E_s r_X10_friday_11 rfl rfl ?_
  refine xm_E_cv [.ref v2, .ref v4, .int (-1 : Int32)] [] r_X10_friday_12 rfl rfl (Nat.le_of_ble_eq_true rfl) (xm_rc q10 (by decide)) rfl q9 ?_
  exact xm_E_iret r_X10_friday_13 rfl rfl
theorem p_X10_friday_0_1 {X : xm_X} {P : List xm_M} {d : Nat} {h : xm_H} {l0 : Nat} {v0 : Nat} {h1 : xm_H} {r1 : Int32} (q0 : X.1[l0]? = some (.inr 9)) (q1 : h.2.2 l0 1 = some v0) (q2 : xm_V X P d 36 [.ref v0] h (some (.int r1)) h1) (q3 : X.1[v0]? = some (.inr 8)) (q4 : ¬ (r1 = (0 : Int32))) : xm_E X P d co_X10_friday 0 [some (.ref l0)] [] h (some (.int (-2 : Int32))) h1 := by
  refine xm_E_s r_X10_friday_0 rfl rfl ?_
  refine xm_E_s r_X10_friday_1 rfl (xm_T_gr rfl q0 rfl rfl q1) ?_
  refine xm_E_cv [.ref v0] [] r_X10_friday_2 rfl rfl (Nat.le_of_ble_eq_true rfl) (xm_rc q3 (by decide)) rfl q2 ?_
  refine xm_E_s r_X10_friday_3 rfl rfl ?_
  refine xm_E_f q4 ?_
  refine xm_E_s r_X10_friday_4 rfl rfl ?_
  refine xm_E_s r_X10_friday_5 rfl rfl ?_
  exact xm_E_iret r_X10_friday_13 rfl rfl
theorem r_X10_given_0 : co_X10_given[0]? = some ((0, .iload_n 1, 0, 0, 0, 0, 0, 0, []) : xm_I) := rfl
theorem r_X10_given_1 : co_X10_given[1]? = some ((1, .ifCond .lt 17, 0, 0, 8, 0, 0, 0, []) : xm_I) := rfl
theorem r_X10_given_2 : co_X10_given[2]? = some ((4, .iload_n 1, 0, 0, 0, 0, 0, 0, []) : xm_I) := rfl
theorem r_X10_given_3 : co_X10_given[3]? = some ((5, .aload_n 0, 0, 0, 0, 0, 0, 0, []) : xm_I) := rfl
theorem r_X10_given_4 : co_X10_given[4]? = some ((6, .getfield 19, 482, 9, 1, 2, 0, 0, []) : xm_I) := rfl
theorem r_X10_given_5 : co_X10_given[5]? = some ((9, .getfield 103, 305, 8, 0, 2, 0, 0, []) : xm_I) := rfl
theorem r_X10_given_6 : co_X10_given[6]? = some ((12, .getfield 341, 245, 0, 11, 0, 0, 0, []) : xm_I) := rfl
theorem r_X10_given_7 : co_X10_given[7]? = some ((15, .if_icmp .lt 6, 0, 0, 10, 0, 0, 0, []) : xm_I) := rfl
theorem r_X10_given_8 : co_X10_given[8]? = some ((18, .bipush (-2), 0, 0, 0, 0, (-2), 0, []) : xm_I) := rfl
theorem r_X10_given_9 : co_X10_given[9]? = some ((20, .ireturn, 0, 0, 0, 0, 0, 0, []) : xm_I) := rfl
theorem r_X10_given_10 : co_X10_given[10]? = some ((21, .aload_n 0, 0, 0, 0, 0, 0, 0, []) : xm_I) := rfl
theorem r_X10_given_11 : co_X10_given[11]? = some ((22, .getfield 57, 488, 9, 7, 2, 0, 0, []) : xm_I) := rfl
theorem r_X10_given_12 : co_X10_given[12]? = some ((25, .aload_n 0, 0, 0, 0, 0, 0, 0, []) : xm_I) := rfl
theorem r_X10_given_13 : co_X10_given[13]? = some ((26, .getfield 19, 482, 9, 1, 2, 0, 0, []) : xm_I) := rfl
theorem r_X10_given_14 : co_X10_given[14]? = some ((29, .getfield 103, 305, 8, 0, 2, 0, 0, []) : xm_I) := rfl
theorem r_X10_given_15 : co_X10_given[15]? = some ((32, .iconst (-1), 0, 0, 0, 0, (-1), 0, []) : xm_I) := rfl
theorem r_X10_given_16 : co_X10_given[16]? = some ((33, .invokevirtual 339, 1236, 160, 3, 4, 0, 0, []) : xm_I) := rfl
theorem r_X10_given_17 : co_X10_given[17]? = some ((36, .iconst (-1), 0, 0, 0, 0, (-1), 0, []) : xm_I) := rfl
theorem r_X10_given_18 : co_X10_given[18]? = some ((37, .if_icmp .ne 7, 0, 0, 21, 0, 0, 0, []) : xm_I) := rfl
theorem r_X10_given_19 : co_X10_given[19]? = some ((40, .iconst (-1), 0, 0, 0, 0, (-1), 0, []) : xm_I) := rfl
theorem r_X10_given_20 : co_X10_given[20]? = some ((41, .goto 11, 0, 0, 25, 0, 0, 0, []) : xm_I) := rfl
theorem r_X10_given_21 : co_X10_given[21]? = some ((44, .aload_n 0, 0, 0, 0, 0, 0, 0, []) : xm_I) := rfl
theorem r_X10_given_22 : co_X10_given[22]? = some ((45, .getfield 57, 488, 9, 7, 2, 0, 0, []) : xm_I) := rfl
theorem r_X10_given_23 : co_X10_given[23]? = some ((48, .iload_n 1, 0, 0, 0, 0, 0, 0, []) : xm_I) := rfl
theorem r_X10_given_24 : co_X10_given[24]? = some ((49, .invokevirtual 344, 1261, 165, 2, 4, 0, 0, []) : xm_I) := rfl
theorem r_X10_given_25 : co_X10_given[25]? = some ((52, .ireturn, 0, 0, 0, 0, 0, 0, []) : xm_I) := rfl
theorem p_X10_given_0_0 {X : xm_X} {P : List xm_M} {d : Nat} {h : xm_H} {l0 : Nat} {l1 : Int32} (q0 : l1 < (0 : Int32)) : xm_E X P d co_X10_given 0 [some (.ref l0), some (.int l1)] [] h (some (.int (-2 : Int32))) h := by
  refine xm_E_s r_X10_given_0 rfl rfl ?_
  refine xm_E_s r_X10_given_1 rfl rfl ?_
  refine xm_E_t q0 ?_
  refine xm_E_s r_X10_given_8 rfl rfl ?_
  exact xm_E_iret r_X10_given_9 rfl rfl
theorem p_X10_given_0_1 {X : xm_X} {P : List xm_M} {d : Nat} {h : xm_H} {l0 : Nat} {l1 : Int32} {v0 : Nat} {v1 : Nat} {v2 : Nat} {h3 : xm_H} {r3 : Int32} (q0 : ¬ (l1 < (0 : Int32))) (q1 : X.1[l0]? = some (.inr 9)) (q2 : h.2.2 l0 1 = some v0) (q3 : X.1[v0]? = some (.inr 8)) (q4 : h.2.2 v0 0 = some v1) (q5 : X.1[v1]? = some (.inr 0)) (q6 : l1 < h.1 v1 11) (q7 : h.2.2 l0 7 = some v2) (q8 : xm_V X P d 160 [.ref v2, .ref v1, .int (-1 : Int32)] h (some (.int r3)) h3) (q9 : X.1[v2]? = some (.inr 4)) (q10 : r3 = (-1 : Int32)) : xm_E X P d co_X10_given 0 [some (.ref l0), some (.int l1)] [] h (some (.int (-1 : Int32))) h3 := by
  refine xm_E_s r_X10_given_0 rfl rfl ?_
  refine xm_E_s r_X10_given_1 rfl rfl ?_
  refine xm_E_f q0 ?_
  refine xm_E_s r_X10_given_2 rfl rfl ?_
  refine xm_E_s r_X10_given_3 rfl rfl ?_
  refine xm_E_s r_X10_given_4 rfl (xm_T_gr rfl q1 rfl rfl q2) ?_
  refine xm_E_s r_X10_given_5 rfl (xm_T_gr rfl q3 rfl rfl q4) ?_
  refine xm_E_s r_X10_given_6 rfl (xm_T_gi rfl q5 rfl (Or.inl rfl)) ?_
  refine xm_E_s r_X10_given_7 rfl rfl ?_
  refine xm_E_t q6 ?_
  refine xm_E_s r_X10_given_10 rfl rfl ?_
  refine xm_E_s r_X10_given_11 rfl (xm_T_gr rfl q1 rfl rfl q7) ?_
  refine xm_E_s r_X10_given_12 rfl rfl ?_
  refine xm_E_s r_X10_given_13 rfl (xm_T_gr rfl q1 rfl rfl q2) ?_
  refine xm_E_s r_X10_given_14 rfl (xm_T_gr rfl q3 rfl rfl q4) ?_
  refine xm_E_s r_X10_given_15 rfl rfl ?_
  refine xm_E_cv [.ref v2, .ref v1, .int (-1 : Int32)] [] r_X10_given_16 rfl rfl (Nat.le_of_ble_eq_true rfl) (xm_rc q9 (by decide)) rfl q8 ?_
  refine xm_E_s r_X10_given_17 rfl rfl ?_
  refine xm_E_s r_X10_given_18 rfl rfl ?_
  refine xm_E_t q10 ?_
  refine xm_E_s r_X10_given_19 rfl rfl ?_
  refine xm_E_s r_X10_given_20 rfl rfl ?_
  exact xm_E_iret r_X10_given_25 rfl rfl
theorem p_X10_given_0_2 {X : xm_X} {P : List xm_M} {d : Nat} {h : xm_H} {l0 : Nat} {l1 : Int32} {v0 : Nat} {v1 : Nat} {v2 : Nat} {h3 : xm_H} {r3 : Int32} {v4 : Nat} {h5 : xm_H} {r5 : Int32} (q0 : ¬ (l1 < (0 : Int32))) (q1 : X.1[l0]? = some (.inr 9)) (q2 : h.2.2 l0 1 = some v0) (q3 : X.1[v0]? = some (.inr 8)) (q4 : h.2.2 v0 0 = some v1) (q5 : X.1[v1]? = some (.inr 0)) (q6 : l1 < h.1 v1 11) (q7 : h.2.2 l0 7 = some v2) (q8 : xm_V X P d 160 [.ref v2, .ref v1, .int (-1 : Int32)] h (some (.int r3)) h3) (q9 : X.1[v2]? = some (.inr 4)) (q10 : ¬ (r3 = (-1 : Int32))) (q11 : h3.2.2 l0 7 = some v4) (q12 : xm_V X P d 165 [.ref v4, .int l1] h3 (some (.int r5)) h5) (q13 : X.1[v4]? = some (.inr 4)) : xm_E X P d co_X10_given 0 [some (.ref l0), some (.int l1)] [] h (some (.int r5)) h5 := by
  refine xm_E_s r_X10_given_0 rfl rfl ?_
  refine xm_E_s r_X10_given_1 rfl rfl ?_
  refine xm_E_f q0 ?_
  refine xm_E_s r_X10_given_2 rfl rfl ?_
  refine xm_E_s r_X10_given_3 rfl rfl ?_
  refine xm_E_s r_X10_given_4 rfl (xm_T_gr rfl q1 rfl rfl q2) ?_
  refine xm_E_s r_X10_given_5 rfl (xm_T_gr rfl q3 rfl rfl q4) ?_
  refine xm_E_s r_X10_given_6 rfl (xm_T_gi rfl q5 rfl (Or.inl rfl)) ?_
  refine xm_E_s r_X10_given_7 rfl rfl ?_
  refine xm_E_t q6 ?_
  refine xm_E_s r_X10_given_10 rfl rfl ?_
  refine xm_E_s r_X10_given_11 rfl (xm_T_gr rfl q1 rfl rfl q7) ?_
  refine xm_E_s r_X10_given_12 rfl rfl ?_
  refine xm_E_s r_X10_given_13 rfl (xm_T_gr rfl q1 rfl rfl q2) ?_
  refine xm_E_s r_X10_given_14 rfl (xm_T_gr rfl q3 rfl rfl q4) ?_
  refine xm_E_s r_X10_given_15 rfl rfl ?_
  refine xm_E_cv [.ref v2, .ref v1, .int (-1 : Int32)] [] r_X10_given_16 rfl rfl (Nat.le_of_ble_eq_true rfl) (xm_rc q9 (by decide)) rfl q8 ?_
  refine xm_E_s r_X10_given_17 rfl rfl ?_
  refine xm_E_s r_X10_given_18 rfl rfl ?_
  refine xm_E_f q10 ?_
  refine xm_E_s r_X10_given_21 rfl rfl ?_
  refine xm_E_s r_X10_given_22 rfl (xm_T_gr rfl q1 rfl rfl q11) ?_
  refine xm_E_s r_X10_given_23 rfl rfl ?_
  refine xm_E_cv [.ref v4, .int l1] [] r_X10_given_24 rfl rfl (Nat.le_of_ble_eq_true rfl) (xm_rc q13 (by decide)) rfl q12 ?_
  exact xm_E_iret r_X10_given_25 rfl rfl
theorem p_X10_given_0_3 {X : xm_X} {P : List xm_M} {d : Nat} {h : xm_H} {l0 : Nat} {l1 : Int32} {v0 : Nat} {v1 : Nat} (q0 : ¬ (l1 < (0 : Int32))) (q1 : X.1[l0]? = some (.inr 9)) (q2 : h.2.2 l0 1 = some v0) (q3 : X.1[v0]? = some (.inr 8)) (q4 : h.2.2 v0 0 = some v1) (q5 : X.1[v1]? = some (.inr 0)) (q6 : ¬ (l1 < h.1 v1 11)) : xm_E X P d co_X10_given 0 [some (.ref l0), some (.int l1)] [] h (some (.int (-2 : Int32))) h := by
  refine xm_E_s r_X10_given_0 rfl rfl ?_
  refine xm_E_s r_X10_given_1 rfl rfl ?_
  refine xm_E_f q0 ?_
  refine xm_E_s r_X10_given_2 rfl rfl ?_
  refine xm_E_s r_X10_given_3 rfl rfl ?_
  refine xm_E_s r_X10_given_4 rfl (xm_T_gr rfl q1 rfl rfl q2) ?_
  refine xm_E_s r_X10_given_5 rfl (xm_T_gr rfl q3 rfl rfl q4) ?_
  refine xm_E_s r_X10_given_6 rfl (xm_T_gi rfl q5 rfl (Or.inl rfl)) ?_
  refine xm_E_s r_X10_given_7 rfl rfl ?_
  refine xm_E_f q6 ?_
  refine xm_E_s r_X10_given_8 rfl rfl ?_
  exact xm_E_iret r_X10_given_9 rfl rfl
theorem r_X10_helps_0 : co_X10_helps[0]? = some ((0, .aload_n 0, 0, 0, 0, 0, 0, 0, []) : xm_I) := rfl
theorem r_X10_helps_1 : co_X10_helps[1]? = some ((1, .iload_n 1, 0, 0, 0, 0, 0, 0, []) : xm_I) := rfl
theorem r_X10_helps_2 : co_X10_helps[2]? = some ((2, .invokevirtual 327, 1211, 154, 2, 9, 0, 0, []) : xm_I) := rfl
theorem r_X10_helps_3 : co_X10_helps[3]? = some ((5, .ifCond .ne 6, 0, 0, 6, 0, 0, 0, []) : xm_I) := rfl
theorem r_X10_helps_4 : co_X10_helps[4]? = some ((8, .bipush (-2), 0, 0, 0, 0, (-2), 0, []) : xm_I) := rfl
theorem r_X10_helps_5 : co_X10_helps[5]? = some ((10, .ireturn, 0, 0, 0, 0, 0, 0, []) : xm_I) := rfl
theorem r_X10_helps_6 : co_X10_helps[6]? = some ((11, .aload_n 0, 0, 0, 0, 0, 0, 0, []) : xm_I) := rfl
theorem r_X10_helps_7 : co_X10_helps[7]? = some ((12, .getfield 57, 488, 9, 7, 2, 0, 0, []) : xm_I) := rfl
theorem r_X10_helps_8 : co_X10_helps[8]? = some ((15, .aload_n 0, 0, 0, 0, 0, 0, 0, []) : xm_I) := rfl
theorem r_X10_helps_9 : co_X10_helps[9]? = some ((16, .getfield 19, 482, 9, 1, 2, 0, 0, []) : xm_I) := rfl
theorem r_X10_helps_10 : co_X10_helps[10]? = some ((19, .getfield 103, 305, 8, 0, 2, 0, 0, []) : xm_I) := rfl
theorem r_X10_helps_11 : co_X10_helps[11]? = some ((22, .iconst (-1), 0, 0, 0, 0, (-1), 0, []) : xm_I) := rfl
theorem r_X10_helps_12 : co_X10_helps[12]? = some ((23, .invokevirtual 339, 1236, 160, 3, 4, 0, 0, []) : xm_I) := rfl
theorem r_X10_helps_13 : co_X10_helps[13]? = some ((26, .aload_n 0, 0, 0, 0, 0, 0, 0, []) : xm_I) := rfl
theorem r_X10_helps_14 : co_X10_helps[14]? = some ((27, .getfield 57, 488, 9, 7, 2, 0, 0, []) : xm_I) := rfl
theorem r_X10_helps_15 : co_X10_helps[15]? = some ((30, .aload_n 0, 0, 0, 0, 0, 0, 0, []) : xm_I) := rfl
theorem r_X10_helps_16 : co_X10_helps[16]? = some ((31, .getfield 19, 482, 9, 1, 2, 0, 0, []) : xm_I) := rfl
theorem r_X10_helps_17 : co_X10_helps[17]? = some ((34, .getfield 103, 305, 8, 0, 2, 0, 0, []) : xm_I) := rfl
theorem r_X10_helps_18 : co_X10_helps[18]? = some ((37, .iload_n 1, 0, 0, 0, 0, 0, 0, []) : xm_I) := rfl
theorem r_X10_helps_19 : co_X10_helps[19]? = some ((38, .invokevirtual 339, 1236, 160, 3, 4, 0, 0, []) : xm_I) := rfl
theorem r_X10_helps_20 : co_X10_helps[20]? = some ((41, .isub, 0, 0, 0, 0, 0, 0, []) : xm_I) := rfl
theorem r_X10_helps_21 : co_X10_helps[21]? = some ((42, .ireturn, 0, 0, 0, 0, 0, 0, []) : xm_I) := rfl
theorem p_X10_helps_0_0 {X : xm_X} {P : List xm_M} {d : Nat} {h : xm_H} {l0 : Nat} {l1 : Int32} {h0 : xm_H} {r0 : Int32} (q0 : xm_V X P d 154 [.ref l0, .int l1] h (some (.int r0)) h0) (q1 : X.1[l0]? = some (.inr 9)) (q2 : r0 = (0 : Int32)) : xm_E X P d co_X10_helps 0 [some (.ref l0), some (.int l1)] [] h (some (.int (-2 : Int32))) h0 := by
  refine xm_E_s r_X10_helps_0 rfl rfl ?_
  refine xm_E_s r_X10_helps_1 rfl rfl ?_
  refine xm_E_cv [.ref l0, .int l1] [] r_X10_helps_2 rfl rfl (Nat.le_of_ble_eq_true rfl) (xm_rc q1 (by decide)) rfl q0 ?_
  refine xm_E_s r_X10_helps_3 rfl rfl ?_
  refine xm_E_t q2 ?_
  refine xm_E_s r_X10_helps_4 rfl rfl ?_
  exact xm_E_iret r_X10_helps_5 rfl rfl
theorem p_X10_helps_0_1 {X : xm_X} {P : List xm_M} {d : Nat} {h : xm_H} {l0 : Nat} {l1 : Int32} {h0 : xm_H} {r0 : Int32} {v1 : Nat} {v2 : Nat} {v3 : Nat} {h4 : xm_H} {r4 : Int32} {v5 : Nat} {v6 : Nat} {v7 : Nat} {h8 : xm_H} {r8 : Int32} (q0 : xm_V X P d 154 [.ref l0, .int l1] h (some (.int r0)) h0) (q1 : X.1[l0]? = some (.inr 9)) (q2 : ¬ (r0 = (0 : Int32))) (q3 : h0.2.2 l0 7 = some v1) (q4 : h0.2.2 l0 1 = some v2) (q5 : X.1[v2]? = some (.inr 8)) (q6 : h0.2.2 v2 0 = some v3) (q7 : xm_V X P d 160 [.ref v1, .ref v3, .int (-1 : Int32)] h0 (some (.int r4)) h4) (q8 : X.1[v1]? = some (.inr 4)) (q9 : h4.2.2 l0 7 = some v5) (q10 : h4.2.2 l0 1 = some v6) (q11 : X.1[v6]? = some (.inr 8)) (q12 : h4.2.2 v6 0 = some v7) (q13 : xm_V X P d 160 [.ref v5, .ref v7, .int l1] h4 (some (.int r8)) h8) (q14 : X.1[v5]? = some (.inr 4)) : xm_E X P d co_X10_helps 0 [some (.ref l0), some (.int l1)] [] h (some (.int (r4 - r8))) h8 := by
  refine xm_E_s r_X10_helps_0 rfl rfl ?_
  refine xm_E_s r_X10_helps_1 rfl rfl ?_
  refine xm_E_cv [.ref l0, .int l1] [] r_X10_helps_2 rfl rfl (Nat.le_of_ble_eq_true rfl) (xm_rc q1 (by decide)) rfl q0 ?_
  refine xm_E_s r_X10_helps_3 rfl rfl ?_
  refine xm_E_f q2 ?_
  refine xm_E_s r_X10_helps_6 rfl rfl ?_
  refine xm_E_s r_X10_helps_7 rfl (xm_T_gr rfl q1 rfl rfl q3) ?_
  refine xm_E_s r_X10_helps_8 rfl rfl ?_
  refine xm_E_s r_X10_helps_9 rfl (xm_T_gr rfl q1 rfl rfl q4) ?_
  refine xm_E_s r_X10_helps_10 rfl (xm_T_gr rfl q5 rfl rfl q6) ?_
  refine xm_E_s r_X10_helps_11 rfl rfl ?_
  refine xm_E_cv [.ref v1, .ref v3, .int (-1 : Int32)] [] r_X10_helps_12 rfl rfl (Nat.le_of_ble_eq_true rfl) (xm_rc q8 (by decide)) rfl q7 ?_
  refine xm_E_s r_X10_helps_13 rfl rfl ?_
  refine xm_E_s r_X10_helps_14 rfl (xm_T_gr rfl q1 rfl rfl q9) ?_
  refine xm_E_s r_X10_helps_15 rfl rfl ?_
  refine xm_E_s r_X10_helps_16 rfl (xm_T_gr rfl q1 rfl rfl q10) ?_
  refine xm_E_s r_X10_helps_17 rfl (xm_T_gr rfl q11 rfl rfl q12) ?_
  refine xm_E_s r_X10_helps_18 rfl rfl ?_
  refine xm_E_cv [.ref v5, .ref v7, .int l1] [.int r4] r_X10_helps_19 rfl rfl (Nat.le_of_ble_eq_true rfl) (xm_rc q14 (by decide)) rfl q13 ?_
  refine xm_E_s r_X10_helps_20 rfl rfl ?_
  exact xm_E_iret r_X10_helps_21 rfl rfl
theorem r_X10_drawn_0 : co_X10_drawn[0]? = some ((0, .iload_n 1, 0, 0, 0, 0, 0, 0, []) : xm_I) := rfl
theorem r_X10_drawn_1 : co_X10_drawn[1]? = some ((1, .invokestatic 347, 1273, 168, 1, 0, 0, 0, []) : xm_I) := rfl
theorem r_X10_drawn_2 : co_X10_drawn[2]? = some ((4, .ifCond .eq 28, 0, 0, 14, 0, 0, 0, []) : xm_I) := rfl
theorem r_X10_drawn_3 : co_X10_drawn[3]? = some ((7, .iload_n 3, 0, 0, 0, 0, 0, 0, []) : xm_I) := rfl
theorem r_X10_drawn_4 : co_X10_drawn[4]? = some ((8, .invokestatic 170, 863, 75, 1, 0, 0, 0, []) : xm_I) := rfl
theorem r_X10_drawn_5 : co_X10_drawn[5]? = some ((11, .ifCond .eq 21, 0, 0, 14, 0, 0, 0, []) : xm_I) := rfl
theorem r_X10_drawn_6 : co_X10_drawn[6]? = some ((14, .aload_n 0, 0, 0, 0, 0, 0, 0, []) : xm_I) := rfl
theorem r_X10_drawn_7 : co_X10_drawn[7]? = some ((15, .iload_n 2, 0, 0, 0, 0, 0, 0, []) : xm_I) := rfl
theorem r_X10_drawn_8 : co_X10_drawn[8]? = some ((16, .aload_n 0, 0, 0, 0, 0, 0, 0, []) : xm_I) := rfl
theorem r_X10_drawn_9 : co_X10_drawn[9]? = some ((17, .getfield 19, 482, 9, 1, 2, 0, 0, []) : xm_I) := rfl
theorem r_X10_drawn_10 : co_X10_drawn[10]? = some ((20, .getfield 103, 305, 8, 0, 2, 0, 0, []) : xm_I) := rfl
theorem r_X10_drawn_11 : co_X10_drawn[11]? = some ((23, .getfield 255, 226, 0, 6, 0, 0, 0, []) : xm_I) := rfl
theorem r_X10_drawn_12 : co_X10_drawn[12]? = some ((26, .invokevirtual 159, 828, 67, 3, 9, 0, 0, []) : xm_I) := rfl
theorem r_X10_drawn_13 : co_X10_drawn[13]? = some ((29, .goto 5, 0, 0, 15, 0, 0, 0, []) : xm_I) := rfl
theorem r_X10_drawn_14 : co_X10_drawn[14]? = some ((32, .bipush (-2), 0, 0, 0, 0, (-2), 0, []) : xm_I) := rfl
theorem r_X10_drawn_15 : co_X10_drawn[15]? = some ((34, .istore 4, 0, 0, 0, 0, 0, 0, []) : xm_I) := rfl
theorem r_X10_drawn_16 : co_X10_drawn[16]? = some ((36, .iload 4, 0, 0, 0, 0, 0, 0, []) : xm_I) := rfl
theorem r_X10_drawn_17 : co_X10_drawn[17]? = some ((38, .ifCond .eq 9, 0, 0, 21, 0, 0, 0, []) : xm_I) := rfl
theorem r_X10_drawn_18 : co_X10_drawn[18]? = some ((41, .iload 4, 0, 0, 0, 0, 0, 0, []) : xm_I) := rfl
theorem r_X10_drawn_19 : co_X10_drawn[19]? = some ((43, .invokestatic 173, 866, 76, 1, 0, 0, 0, []) : xm_I) := rfl
theorem r_X10_drawn_20 : co_X10_drawn[20]? = some ((46, .ireturn, 0, 0, 0, 0, 0, 0, []) : xm_I) := rfl
theorem r_X10_drawn_21 : co_X10_drawn[21]? = some ((47, .aload_n 0, 0, 0, 0, 0, 0, 0, []) : xm_I) := rfl
theorem r_X10_drawn_22 : co_X10_drawn[22]? = some ((48, .getfield 50, 487, 9, 6, 2, 0, 0, []) : xm_I) := rfl
theorem r_X10_drawn_23 : co_X10_drawn[23]? = some ((51, .aload_n 0, 0, 0, 0, 0, 0, 0, []) : xm_I) := rfl
theorem r_X10_drawn_24 : co_X10_drawn[24]? = some ((52, .getfield 19, 482, 9, 1, 2, 0, 0, []) : xm_I) := rfl
theorem r_X10_drawn_25 : co_X10_drawn[25]? = some ((55, .aload_n 0, 0, 0, 0, 0, 0, 0, []) : xm_I) := rfl
theorem r_X10_drawn_26 : co_X10_drawn[26]? = some ((56, .getfield 36, 485, 9, 4, 2, 0, 0, []) : xm_I) := rfl
theorem r_X10_drawn_27 : co_X10_drawn[27]? = some ((59, .iload_n 2, 0, 0, 0, 0, 0, 0, []) : xm_I) := rfl
theorem r_X10_drawn_28 : co_X10_drawn[28]? = some ((60, .aaload, 0, 0, 0, 0, 0, 0, []) : xm_I) := rfl
theorem r_X10_drawn_29 : co_X10_drawn[29]? = some ((61, .iload_n 1, 0, 0, 0, 0, 0, 0, []) : xm_I) := rfl
theorem r_X10_drawn_30 : co_X10_drawn[30]? = some ((62, .invokevirtual 350, 1277, 169, 4, 6, 0, 0, []) : xm_I) := rfl
theorem r_X10_drawn_31 : co_X10_drawn[31]? = some ((65, .aload_n 0, 0, 0, 0, 0, 0, 0, []) : xm_I) := rfl
theorem r_X10_drawn_32 : co_X10_drawn[32]? = some ((66, .aload_n 0, 0, 0, 0, 0, 0, 0, []) : xm_I) := rfl
theorem r_X10_drawn_33 : co_X10_drawn[33]? = some ((67, .getfield 50, 487, 9, 6, 2, 0, 0, []) : xm_I) := rfl
theorem r_X10_drawn_34 : co_X10_drawn[34]? = some ((70, .getfield 176, 399, 6, 0, 0, 0, 0, []) : xm_I) := rfl
theorem r_X10_drawn_35 : co_X10_drawn[35]? = some ((73, .aload_n 0, 0, 0, 0, 0, 0, 0, []) : xm_I) := rfl
theorem r_X10_drawn_36 : co_X10_drawn[36]? = some ((74, .getfield 50, 487, 9, 6, 2, 0, 0, []) : xm_I) := rfl
theorem r_X10_drawn_37 : co_X10_drawn[37]? = some ((77, .getfield 177, 401, 6, 1, 0, 0, 0, []) : xm_I) := rfl
theorem r_X10_drawn_38 : co_X10_drawn[38]? = some ((80, .iload_n 3, 0, 0, 0, 0, 0, 0, []) : xm_I) := rfl
theorem r_X10_drawn_39 : co_X10_drawn[39]? = some ((81, .invokevirtual 122, 700, 37, 4, 9, 0, 0, []) : xm_I) := rfl
theorem r_X10_drawn_40 : co_X10_drawn[40]? = some ((84, .ireturn, 0, 0, 0, 0, 0, 0, []) : xm_I) := rfl
theorem p_X10_drawn_0_0 {X : xm_X} {P : List xm_M} {d : Nat} {h : xm_H} {l0 : Nat} {l1 : Int32} {l2 : Int32} {l3 : Int32} {h0 : xm_H} {r0 : Int32} {h1 : xm_H} {r1 : Int32} (q0 : xm_V X P d 168 [.int l1] h (some (.int r0)) h0) (q1 : r0 = (0 : Int32)) (q2 : xm_V X P d 76 [.int (-2 : Int32)] h0 (some (.int r1)) h1) : xm_E X P d co_X10_drawn 0 [some (.ref l0), some (.int l1), some (.int l2), some (.int l3), none] [] h (some (.int r1)) h1 := by
  refine xm_E_s r_X10_drawn_0 rfl rfl ?_
  refine xm_E_cs [.int l1] [] r_X10_drawn_1 rfl rfl rfl (Nat.le_of_ble_eq_true rfl) rfl q0 ?_
  refine xm_E_s r_X10_drawn_2 rfl rfl ?_
  refine xm_E_t q1 ?_
  refine xm_E_s r_X10_drawn_14 rfl rfl ?_
  refine xm_E_s (ls1 := [some (.ref l0), some (.int l1), some (.int l2), some (.int l3), some (.int (-2 : Int32))]) r_X10_drawn_15 rfl rfl ?_
  refine xm_E_s r_X10_drawn_16 rfl rfl ?_
  refine xm_E_s r_X10_drawn_17 rfl rfl ?_
  show xm_E X P d co_X10_drawn 18 _ _ _ _ _
  refine xm_E_s r_X10_drawn_18 rfl rfl ?_
  refine xm_E_cs [.int (-2 : Int32)] [] r_X10_drawn_19 rfl rfl rfl (Nat.le_of_ble_eq_true rfl) rfl q2 ?_
  exact xm_E_iret r_X10_drawn_20 rfl rfl
theorem p_X10_drawn_0_1 {X : xm_X} {P : List xm_M} {d : Nat} {h : xm_H} {l0 : Nat} {l1 : Int32} {l2 : Int32} {l3 : Int32} {h0 : xm_H} {r0 : Int32} {h1 : xm_H} {r1 : Int32} {h2 : xm_H} {r2 : Int32} (q0 : xm_V X P d 168 [.int l1] h (some (.int r0)) h0) (q1 : ¬ (r0 = (0 : Int32))) (q2 : xm_V X P d 75 [.int l3] h0 (some (.int r1)) h1) (q3 : r1 = (0 : Int32)) (q4 : xm_V X P d 76 [.int (-2 : Int32)] h1 (some (.int r2)) h2) : xm_E X P d co_X10_drawn 0 [some (.ref l0), some (.int l1), some (.int l2), some (.int l3), none] [] h (some (.int r2)) h2 := by
  refine xm_E_s r_X10_drawn_0 rfl rfl ?_
  refine xm_E_cs [.int l1] [] r_X10_drawn_1 rfl rfl rfl (Nat.le_of_ble_eq_true rfl) rfl q0 ?_
  refine xm_E_s r_X10_drawn_2 rfl rfl ?_
  refine xm_E_f q1 ?_
  refine xm_E_s r_X10_drawn_3 rfl rfl ?_
  refine xm_E_cs [.int l3] [] r_X10_drawn_4 rfl rfl rfl (Nat.le_of_ble_eq_true rfl) rfl q2 ?_
  refine xm_E_s r_X10_drawn_5 rfl rfl ?_
  refine xm_E_t q3 ?_
  refine xm_E_s r_X10_drawn_14 rfl rfl ?_
  refine xm_E_s (ls1 := [some (.ref l0), some (.int l1), some (.int l2), some (.int l3), some (.int (-2 : Int32))]) r_X10_drawn_15 rfl rfl ?_
  refine xm_E_s r_X10_drawn_16 rfl rfl ?_
  refine xm_E_s r_X10_drawn_17 rfl rfl ?_
  show xm_E X P d co_X10_drawn 18 _ _ _ _ _
  refine xm_E_s r_X10_drawn_18 rfl rfl ?_
  refine xm_E_cs [.int (-2 : Int32)] [] r_X10_drawn_19 rfl rfl rfl (Nat.le_of_ble_eq_true rfl) rfl q4 ?_
  exact xm_E_iret r_X10_drawn_20 rfl rfl
theorem p_X10_drawn_0_2 {X : xm_X} {P : List xm_M} {d : Nat} {h : xm_H} {l0 : Nat} {l1 : Int32} {l2 : Int32} {l3 : Int32} {h0 : xm_H} {r0 : Int32} {h1 : xm_H} {r1 : Int32} {v2 : Nat} {v3 : Nat} {h4 : xm_H} {r4 : Int32} {v5 : Nat} {v6 : Nat} {v7 : Nat} {n8 : Nat} {b8 : Nat} {v9 : Nat} {h10 : xm_H} {v11 : Nat} {h12 : xm_H} {r12 : Int32} (q0 : xm_V X P d 168 [.int l1] h (some (.int r0)) h0) (q1 : ¬ (r0 = (0 : Int32))) (q2 : xm_V X P d 75 [.int l3] h0 (some (.int r1)) h1) (q3 : ¬ (r1 = (0 : Int32))) (q4 : X.1[l0]? = some (.inr 9)) (q5 : h1.2.2 l0 1 = some v2) (q6 : X.1[v2]? = some (.inr 8)) (q7 : h1.2.2 v2 0 = some v3) (q8 : X.1[v3]? = some (.inr 0)) (q9 : xm_V X P d 67 [.ref l0, .int l2, .int (h1.1 v3 6)] h1 (some (.int r4)) h4) (q10 : r4 = (0 : Int32)) (q11 : h4.2.2 l0 6 = some v5) (q12 : h4.2.2 l0 1 = some v6) (q13 : h4.2.2 l0 4 = some v7) (q14 : X.1[v7]? = some (.inl (b8, n8))) (q15 : ¬ (l2 < 0 ∨ n8 ≤ l2.toNatClampNeg)) (q16 : b8 = 4 ∨ b8 = 5) (q17 : h4.2.2 v7 l2.toNatClampNeg = some v9) (q18 : xm_V X P d 169 [.ref v5, .ref v6, .ref v9, .int l1] h4 none h10) (q19 : X.1[v5]? = some (.inr 6)) (q20 : h10.2.2 l0 6 = some v11) (q21 : X.1[v11]? = some (.inr 6)) (q22 : xm_V X P d 37 [.ref l0, .int (h10.1 v11 0), .int (h10.1 v11 1), .int l3] h10 (some (.int r12)) h12) : xm_E X P d co_X10_drawn 0 [some (.ref l0), some (.int l1), some (.int l2), some (.int l3), none] [] h (some (.int r12)) h12 := by
  refine xm_E_s r_X10_drawn_0 rfl rfl ?_
  refine xm_E_cs [.int l1] [] r_X10_drawn_1 rfl rfl rfl (Nat.le_of_ble_eq_true rfl) rfl q0 ?_
  refine xm_E_s r_X10_drawn_2 rfl rfl ?_
  refine xm_E_f q1 ?_
  refine xm_E_s r_X10_drawn_3 rfl rfl ?_
  refine xm_E_cs [.int l3] [] r_X10_drawn_4 rfl rfl rfl (Nat.le_of_ble_eq_true rfl) rfl q2 ?_
  refine xm_E_s r_X10_drawn_5 rfl rfl ?_
  refine xm_E_f q3 ?_
  refine xm_E_s r_X10_drawn_6 rfl rfl ?_
  refine xm_E_s r_X10_drawn_7 rfl rfl ?_
  refine xm_E_s r_X10_drawn_8 rfl rfl ?_
  refine xm_E_s r_X10_drawn_9 rfl (xm_T_gr rfl q4 rfl rfl q5) ?_
  refine xm_E_s r_X10_drawn_10 rfl (xm_T_gr rfl q6 rfl rfl q7) ?_
  refine xm_E_s r_X10_drawn_11 rfl (xm_T_gi rfl q8 rfl (Or.inl rfl)) ?_
  refine xm_E_cv [.ref l0, .int l2, .int (h1.1 v3 6)] [] r_X10_drawn_12 rfl rfl (Nat.le_of_ble_eq_true rfl) (xm_rc q4 (by decide)) rfl q9 ?_
  refine xm_E_s r_X10_drawn_13 rfl rfl ?_
  refine xm_E_s (ls1 := [some (.ref l0), some (.int l1), some (.int l2), some (.int l3), some (.int r4)]) r_X10_drawn_15 rfl rfl ?_
  refine xm_E_s r_X10_drawn_16 rfl rfl ?_
  refine xm_E_s r_X10_drawn_17 rfl rfl ?_
  refine xm_E_t q10 ?_
  refine xm_E_s r_X10_drawn_21 rfl rfl ?_
  refine xm_E_s r_X10_drawn_22 rfl (xm_T_gr rfl q4 rfl rfl q11) ?_
  refine xm_E_s r_X10_drawn_23 rfl rfl ?_
  refine xm_E_s r_X10_drawn_24 rfl (xm_T_gr rfl q4 rfl rfl q12) ?_
  refine xm_E_s r_X10_drawn_25 rfl rfl ?_
  refine xm_E_s r_X10_drawn_26 rfl (xm_T_gr rfl q4 rfl rfl q13) ?_
  refine xm_E_s r_X10_drawn_27 rfl rfl ?_
  refine xm_E_s r_X10_drawn_28 rfl (xm_T_aald rfl q14 q16 q15 q17) ?_
  refine xm_E_s r_X10_drawn_29 rfl rfl ?_
  refine xm_E_cv [.ref v5, .ref v6, .ref v9, .int l1] [] r_X10_drawn_30 rfl rfl (Nat.le_of_ble_eq_true rfl) (xm_rc q19 (by decide)) rfl q18 ?_
  refine xm_E_s r_X10_drawn_31 rfl rfl ?_
  refine xm_E_s r_X10_drawn_32 rfl rfl ?_
  refine xm_E_s r_X10_drawn_33 rfl (xm_T_gr rfl q4 rfl rfl q20) ?_
  refine xm_E_s r_X10_drawn_34 rfl (xm_T_gi rfl q21 rfl (Or.inl rfl)) ?_
  refine xm_E_s r_X10_drawn_35 rfl rfl ?_
  refine xm_E_s r_X10_drawn_36 rfl (xm_T_gr rfl q4 rfl rfl q20) ?_
  refine xm_E_s r_X10_drawn_37 rfl (xm_T_gi rfl q21 rfl (Or.inl rfl)) ?_
  refine xm_E_s r_X10_drawn_38 rfl rfl ?_
  refine xm_E_cv [.ref l0, .int (h10.1 v11 0), .int (h10.1 v11 1), .int l3] [] r_X10_drawn_39 rfl rfl (Nat.le_of_ble_eq_true rfl) (xm_rc q4 (by decide)) rfl q22 ?_
  exact xm_E_iret r_X10_drawn_40 rfl rfl
theorem p_X10_drawn_0_3 {X : xm_X} {P : List xm_M} {d : Nat} {h : xm_H} {l0 : Nat} {l1 : Int32} {l2 : Int32} {l3 : Int32} {h0 : xm_H} {r0 : Int32} {h1 : xm_H} {r1 : Int32} {v2 : Nat} {v3 : Nat} {h4 : xm_H} {r4 : Int32} {h5 : xm_H} {r5 : Int32} (q0 : xm_V X P d 168 [.int l1] h (some (.int r0)) h0) (q1 : ¬ (r0 = (0 : Int32))) (q2 : xm_V X P d 75 [.int l3] h0 (some (.int r1)) h1) (q3 : ¬ (r1 = (0 : Int32))) (q4 : X.1[l0]? = some (.inr 9)) (q5 : h1.2.2 l0 1 = some v2) (q6 : X.1[v2]? = some (.inr 8)) (q7 : h1.2.2 v2 0 = some v3) (q8 : X.1[v3]? = some (.inr 0)) (q9 : xm_V X P d 67 [.ref l0, .int l2, .int (h1.1 v3 6)] h1 (some (.int r4)) h4) (q10 : ¬ (r4 = (0 : Int32))) (q11 : xm_V X P d 76 [.int r4] h4 (some (.int r5)) h5) : xm_E X P d co_X10_drawn 0 [some (.ref l0), some (.int l1), some (.int l2), some (.int l3), none] [] h (some (.int r5)) h5 := by
  refine xm_E_s r_X10_drawn_0 rfl rfl ?_
  refine xm_E_cs [.int l1] [] r_X10_drawn_1 rfl rfl rfl (Nat.le_of_ble_eq_true rfl) rfl q0 ?_
  refine xm_E_s r_X10_drawn_2 rfl rfl ?_
  refine xm_E_f q1 ?_
  refine xm_E_s r_X10_drawn_3 rfl rfl ?_
  refine xm_E_cs [.int l3] [] r_X10_drawn_4 rfl rfl rfl (Nat.le_of_ble_eq_true rfl) rfl q2 ?_
  refine xm_E_s r_X10_drawn_5 rfl rfl ?_
  refine xm_E_f q3 ?_
  refine xm_E_s r_X10_drawn_6 rfl rfl ?_
  refine xm_E_s r_X10_drawn_7 rfl rfl ?_
  refine xm_E_s r_X10_drawn_8 rfl rfl ?_
  refine xm_E_s r_X10_drawn_9 rfl (xm_T_gr rfl q4 rfl rfl q5) ?_
  refine xm_E_s r_X10_drawn_10 rfl (xm_T_gr rfl q6 rfl rfl q7) ?_
  refine xm_E_s r_X10_drawn_11 rfl (xm_T_gi rfl q8 rfl (Or.inl rfl)) ?_
  refine xm_E_cv [.ref l0, .int l2, .int (h1.1 v3 6)] [] r_X10_drawn_12 rfl rfl (Nat.le_of_ble_eq_true rfl) (xm_rc q4 (by decide)) rfl q9 ?_
  refine xm_E_s r_X10_drawn_13 rfl rfl ?_
  refine xm_E_s (ls1 := [some (.ref l0), some (.int l1), some (.int l2), some (.int l3), some (.int r4)]) r_X10_drawn_15 rfl rfl ?_
  refine xm_E_s r_X10_drawn_16 rfl rfl ?_
  refine xm_E_s r_X10_drawn_17 rfl rfl ?_
  refine xm_E_f q10 ?_
  refine xm_E_s r_X10_drawn_18 rfl rfl ?_
  refine xm_E_cs [.int r4] [] r_X10_drawn_19 rfl rfl rfl (Nat.le_of_ble_eq_true rfl) rfl q11 ?_
  exact xm_E_iret r_X10_drawn_20 rfl rfl
theorem r_X10_isSeed_0 : co_X10_isSeed[0]? = some ((0, .iload_n 0, 0, 0, 0, 0, 0, 0, []) : xm_I) := rfl
theorem r_X10_isSeed_1 : co_X10_isSeed[1]? = some ((1, .ifCond .lt 14, 0, 0, 7, 0, 0, 0, []) : xm_I) := rfl
theorem r_X10_isSeed_2 : co_X10_isSeed[2]? = some ((4, .iload_n 0, 0, 0, 0, 0, 0, 0, []) : xm_I) := rfl
theorem r_X10_isSeed_3 : co_X10_isSeed[3]? = some ((5, .ldc_w 404, 1276, 0, 0, 0, 2000000000, 0, []) : xm_I) := rfl
theorem r_X10_isSeed_4 : co_X10_isSeed[4]? = some ((8, .if_icmp .gt 7, 0, 0, 7, 0, 0, 0, []) : xm_I) := rfl
theorem r_X10_isSeed_5 : co_X10_isSeed[5]? = some ((11, .iconst 1, 0, 0, 0, 0, 1, 0, []) : xm_I) := rfl
theorem r_X10_isSeed_6 : co_X10_isSeed[6]? = some ((12, .goto 4, 0, 0, 8, 0, 0, 0, []) : xm_I) := rfl
theorem r_X10_isSeed_7 : co_X10_isSeed[7]? = some ((15, .iconst 0, 0, 0, 0, 0, 0, 0, []) : xm_I) := rfl
theorem r_X10_isSeed_8 : co_X10_isSeed[8]? = some ((16, .ireturn, 0, 0, 0, 3, 0, 0, []) : xm_I) := rfl
theorem p_X10_isSeed_0_0 {X : xm_X} {P : List xm_M} {d : Nat} {h : xm_H} {l0 : Int32} (q0 : l0 < (0 : Int32)) : xm_E X P d co_X10_isSeed 0 [some (.int l0)] [] h (some (.int (0 : Int32))) h := by
  refine xm_E_s r_X10_isSeed_0 rfl rfl ?_
  refine xm_E_s r_X10_isSeed_1 rfl rfl ?_
  refine xm_E_t q0 ?_
  refine xm_E_s r_X10_isSeed_7 rfl rfl ?_
  exact xm_E_iret r_X10_isSeed_8 rfl rfl
theorem p_X10_isSeed_0_1 {X : xm_X} {P : List xm_M} {d : Nat} {h : xm_H} {l0 : Int32} (q0 : ¬ (l0 < (0 : Int32))) (q1 : (2000000000 : Int32) < l0) : xm_E X P d co_X10_isSeed 0 [some (.int l0)] [] h (some (.int (0 : Int32))) h := by
  refine xm_E_s r_X10_isSeed_0 rfl rfl ?_
  refine xm_E_s r_X10_isSeed_1 rfl rfl ?_
  refine xm_E_f q0 ?_
  refine xm_E_s r_X10_isSeed_2 rfl rfl ?_
  refine xm_E_s r_X10_isSeed_3 rfl rfl ?_
  refine xm_E_s r_X10_isSeed_4 rfl rfl ?_
  refine xm_E_t q1 ?_
  refine xm_E_s r_X10_isSeed_7 rfl rfl ?_
  exact xm_E_iret r_X10_isSeed_8 rfl rfl
theorem p_X10_isSeed_0_2 {X : xm_X} {P : List xm_M} {d : Nat} {h : xm_H} {l0 : Int32} (q0 : ¬ (l0 < (0 : Int32))) (q1 : ¬ ((2000000000 : Int32) < l0)) : xm_E X P d co_X10_isSeed 0 [some (.int l0)] [] h (some (.int (1 : Int32))) h := by
  refine xm_E_s r_X10_isSeed_0 rfl rfl ?_
  refine xm_E_s r_X10_isSeed_1 rfl rfl ?_
  refine xm_E_f q0 ?_
  refine xm_E_s r_X10_isSeed_2 rfl rfl ?_
  refine xm_E_s r_X10_isSeed_3 rfl rfl ?_
  refine xm_E_s r_X10_isSeed_4 rfl rfl ?_
  refine xm_E_f q1 ?_
  refine xm_E_s r_X10_isSeed_5 rfl rfl ?_
  refine xm_E_s r_X10_isSeed_6 rfl rfl ?_
  exact xm_E_iret r_X10_isSeed_8 rfl rfl
theorem r_X10_slipped_0 : co_X10_slipped[0]? = some ((0, .iload_n 1, 0, 0, 0, 0, 0, 0, []) : xm_I) := rfl
theorem r_X10_slipped_1 : co_X10_slipped[1]? = some ((1, .invokestatic 347, 1273, 168, 1, 0, 0, 0, []) : xm_I) := rfl
theorem r_X10_slipped_2 : co_X10_slipped[2]? = some ((4, .ifCond .eq 21, 0, 0, 11, 0, 0, 0, []) : xm_I) := rfl
theorem r_X10_slipped_3 : co_X10_slipped[3]? = some ((7, .aload_n 0, 0, 0, 0, 0, 0, 0, []) : xm_I) := rfl
theorem r_X10_slipped_4 : co_X10_slipped[4]? = some ((8, .iload_n 2, 0, 0, 0, 0, 0, 0, []) : xm_I) := rfl
theorem r_X10_slipped_5 : co_X10_slipped[5]? = some ((9, .aload_n 0, 0, 0, 0, 0, 0, 0, []) : xm_I) := rfl
theorem r_X10_slipped_6 : co_X10_slipped[6]? = some ((10, .getfield 19, 482, 9, 1, 2, 0, 0, []) : xm_I) := rfl
theorem r_X10_slipped_7 : co_X10_slipped[7]? = some ((13, .getfield 103, 305, 8, 0, 2, 0, 0, []) : xm_I) := rfl
theorem r_X10_slipped_8 : co_X10_slipped[8]? = some ((16, .getfield 255, 226, 0, 6, 0, 0, 0, []) : xm_I) := rfl
theorem r_X10_slipped_9 : co_X10_slipped[9]? = some ((19, .invokevirtual 159, 828, 67, 3, 9, 0, 0, []) : xm_I) := rfl
theorem r_X10_slipped_10 : co_X10_slipped[10]? = some ((22, .goto 5, 0, 0, 12, 0, 0, 0, []) : xm_I) := rfl
theorem r_X10_slipped_11 : co_X10_slipped[11]? = some ((25, .bipush (-2), 0, 0, 0, 0, (-2), 0, []) : xm_I) := rfl
theorem r_X10_slipped_12 : co_X10_slipped[12]? = some ((27, .istore_n 3, 0, 0, 0, 0, 0, 0, []) : xm_I) := rfl
theorem r_X10_slipped_13 : co_X10_slipped[13]? = some ((28, .iload_n 3, 0, 0, 0, 0, 0, 0, []) : xm_I) := rfl
theorem r_X10_slipped_14 : co_X10_slipped[14]? = some ((29, .ifCond .eq 5, 0, 0, 17, 0, 0, 0, []) : xm_I) := rfl
theorem r_X10_slipped_15 : co_X10_slipped[15]? = some ((32, .iload_n 3, 0, 0, 0, 0, 0, 0, []) : xm_I) := rfl
theorem r_X10_slipped_16 : co_X10_slipped[16]? = some ((33, .ireturn, 0, 0, 0, 0, 0, 0, []) : xm_I) := rfl
theorem r_X10_slipped_17 : co_X10_slipped[17]? = some ((34, .aload_n 0, 0, 0, 0, 0, 0, 0, []) : xm_I) := rfl
theorem r_X10_slipped_18 : co_X10_slipped[18]? = some ((35, .getfield 50, 487, 9, 6, 2, 0, 0, []) : xm_I) := rfl
theorem r_X10_slipped_19 : co_X10_slipped[19]? = some ((38, .aload_n 0, 0, 0, 0, 0, 0, 0, []) : xm_I) := rfl
theorem r_X10_slipped_20 : co_X10_slipped[20]? = some ((39, .getfield 19, 482, 9, 1, 2, 0, 0, []) : xm_I) := rfl
theorem r_X10_slipped_21 : co_X10_slipped[21]? = some ((42, .aload_n 0, 0, 0, 0, 0, 0, 0, []) : xm_I) := rfl
theorem r_X10_slipped_22 : co_X10_slipped[22]? = some ((43, .getfield 36, 485, 9, 4, 2, 0, 0, []) : xm_I) := rfl
theorem r_X10_slipped_23 : co_X10_slipped[23]? = some ((46, .iload_n 2, 0, 0, 0, 0, 0, 0, []) : xm_I) := rfl
theorem r_X10_slipped_24 : co_X10_slipped[24]? = some ((47, .aaload, 0, 0, 0, 0, 0, 0, []) : xm_I) := rfl
theorem r_X10_slipped_25 : co_X10_slipped[25]? = some ((48, .iload_n 1, 0, 0, 0, 0, 0, 0, []) : xm_I) := rfl
theorem r_X10_slipped_26 : co_X10_slipped[26]? = some ((49, .invokevirtual 350, 1277, 169, 4, 6, 0, 0, []) : xm_I) := rfl
theorem r_X10_slipped_27 : co_X10_slipped[27]? = some ((52, .aload_n 0, 0, 0, 0, 0, 0, 0, []) : xm_I) := rfl
theorem r_X10_slipped_28 : co_X10_slipped[28]? = some ((53, .getfield 50, 487, 9, 6, 2, 0, 0, []) : xm_I) := rfl
theorem r_X10_slipped_29 : co_X10_slipped[29]? = some ((56, .getfield 354, 405, 6, 3, 0, 0, 0, []) : xm_I) := rfl
theorem r_X10_slipped_30 : co_X10_slipped[30]? = some ((59, .ireturn, 0, 0, 0, 0, 0, 0, []) : xm_I) := rfl
theorem p_X10_slipped_0_0 {X : xm_X} {P : List xm_M} {d : Nat} {h : xm_H} {l0 : Nat} {l1 : Int32} {l2 : Int32} {h0 : xm_H} {r0 : Int32} (q0 : xm_V X P d 168 [.int l1] h (some (.int r0)) h0) (q1 : r0 = (0 : Int32)) : xm_E X P d co_X10_slipped 0 [some (.ref l0), some (.int l1), some (.int l2), none] [] h (some (.int (-2 : Int32))) h0 := by
  refine xm_E_s r_X10_slipped_0 rfl rfl ?_
  refine xm_E_cs [.int l1] [] r_X10_slipped_1 rfl rfl rfl (Nat.le_of_ble_eq_true rfl) rfl q0 ?_
  refine xm_E_s r_X10_slipped_2 rfl rfl ?_
  refine xm_E_t q1 ?_
  refine xm_E_s r_X10_slipped_11 rfl rfl ?_
  refine xm_E_s (ls1 := [some (.ref l0), some (.int l1), some (.int l2), some (.int (-2 : Int32))]) r_X10_slipped_12 rfl rfl ?_
  refine xm_E_s r_X10_slipped_13 rfl rfl ?_
  refine xm_E_s r_X10_slipped_14 rfl rfl ?_
  show xm_E X P d co_X10_slipped 15 _ _ _ _ _
  refine xm_E_s r_X10_slipped_15 rfl rfl ?_
  exact xm_E_iret r_X10_slipped_16 rfl rfl
theorem p_X10_slipped_0_1 {X : xm_X} {P : List xm_M} {d : Nat} {h : xm_H} {l0 : Nat} {l1 : Int32} {l2 : Int32} {h0 : xm_H} {r0 : Int32} {v1 : Nat} {v2 : Nat} {h3 : xm_H} {r3 : Int32} {v4 : Nat} {v5 : Nat} {v6 : Nat} {n7 : Nat} {b7 : Nat} {v8 : Nat} {h9 : xm_H} {v10 : Nat} (q0 : xm_V X P d 168 [.int l1] h (some (.int r0)) h0) (q1 : ¬ (r0 = (0 : Int32))) (q2 : X.1[l0]? = some (.inr 9)) (q3 : h0.2.2 l0 1 = some v1) (q4 : X.1[v1]? = some (.inr 8)) (q5 : h0.2.2 v1 0 = some v2) (q6 : X.1[v2]? = some (.inr 0)) (q7 : xm_V X P d 67 [.ref l0, .int l2, .int (h0.1 v2 6)] h0 (some (.int r3)) h3) (q8 : r3 = (0 : Int32)) (q9 : h3.2.2 l0 6 = some v4) (q10 : h3.2.2 l0 1 = some v5) (q11 : h3.2.2 l0 4 = some v6) (q12 : X.1[v6]? = some (.inl (b7, n7))) (q13 : ¬ (l2 < 0 ∨ n7 ≤ l2.toNatClampNeg)) (q14 : b7 = 4 ∨ b7 = 5) (q15 : h3.2.2 v6 l2.toNatClampNeg = some v8) (q16 : xm_V X P d 169 [.ref v4, .ref v5, .ref v8, .int l1] h3 none h9) (q17 : X.1[v4]? = some (.inr 6)) (q18 : h9.2.2 l0 6 = some v10) (q19 : X.1[v10]? = some (.inr 6)) : xm_E X P d co_X10_slipped 0 [some (.ref l0), some (.int l1), some (.int l2), none] [] h (some (.int (h9.1 v10 3))) h9 := by
  refine xm_E_s r_X10_slipped_0 rfl rfl ?_
  refine xm_E_cs [.int l1] [] r_X10_slipped_1 rfl rfl rfl (Nat.le_of_ble_eq_true rfl) rfl q0 ?_
  refine xm_E_s r_X10_slipped_2 rfl rfl ?_
  refine xm_E_f q1 ?_
  refine xm_E_s r_X10_slipped_3 rfl rfl ?_
  refine xm_E_s r_X10_slipped_4 rfl rfl ?_
  refine xm_E_s r_X10_slipped_5 rfl rfl ?_
  refine xm_E_s r_X10_slipped_6 rfl (xm_T_gr rfl q2 rfl rfl q3) ?_
  refine xm_E_s r_X10_slipped_7 rfl (xm_T_gr rfl q4 rfl rfl q5) ?_
  refine xm_E_s r_X10_slipped_8 rfl (xm_T_gi rfl q6 rfl (Or.inl rfl)) ?_
  refine xm_E_cv [.ref l0, .int l2, .int (h0.1 v2 6)] [] r_X10_slipped_9 rfl rfl (Nat.le_of_ble_eq_true rfl) (xm_rc q2 (by decide)) rfl q7 ?_
  refine xm_E_s r_X10_slipped_10 rfl rfl ?_
  refine xm_E_s (ls1 := [some (.ref l0), some (.int l1), some (.int l2), some (.int r3)]) r_X10_slipped_12 rfl rfl ?_
  refine xm_E_s r_X10_slipped_13 rfl rfl ?_
  refine xm_E_s r_X10_slipped_14 rfl rfl ?_
  refine xm_E_t q8 ?_
  refine xm_E_s r_X10_slipped_17 rfl rfl ?_
  refine xm_E_s r_X10_slipped_18 rfl (xm_T_gr rfl q2 rfl rfl q9) ?_
  refine xm_E_s r_X10_slipped_19 rfl rfl ?_
  refine xm_E_s r_X10_slipped_20 rfl (xm_T_gr rfl q2 rfl rfl q10) ?_
  refine xm_E_s r_X10_slipped_21 rfl rfl ?_
  refine xm_E_s r_X10_slipped_22 rfl (xm_T_gr rfl q2 rfl rfl q11) ?_
  refine xm_E_s r_X10_slipped_23 rfl rfl ?_
  refine xm_E_s r_X10_slipped_24 rfl (xm_T_aald rfl q12 q14 q13 q15) ?_
  refine xm_E_s r_X10_slipped_25 rfl rfl ?_
  refine xm_E_cv [.ref v4, .ref v5, .ref v8, .int l1] [] r_X10_slipped_26 rfl rfl (Nat.le_of_ble_eq_true rfl) (xm_rc q17 (by decide)) rfl q16 ?_
  refine xm_E_s r_X10_slipped_27 rfl rfl ?_
  refine xm_E_s r_X10_slipped_28 rfl (xm_T_gr rfl q2 rfl rfl q18) ?_
  refine xm_E_s r_X10_slipped_29 rfl (xm_T_gi rfl q19 rfl (Or.inl rfl)) ?_
  exact xm_E_iret r_X10_slipped_30 rfl rfl
theorem p_X10_slipped_0_2 {X : xm_X} {P : List xm_M} {d : Nat} {h : xm_H} {l0 : Nat} {l1 : Int32} {l2 : Int32} {h0 : xm_H} {r0 : Int32} {v1 : Nat} {v2 : Nat} {h3 : xm_H} {r3 : Int32} (q0 : xm_V X P d 168 [.int l1] h (some (.int r0)) h0) (q1 : ¬ (r0 = (0 : Int32))) (q2 : X.1[l0]? = some (.inr 9)) (q3 : h0.2.2 l0 1 = some v1) (q4 : X.1[v1]? = some (.inr 8)) (q5 : h0.2.2 v1 0 = some v2) (q6 : X.1[v2]? = some (.inr 0)) (q7 : xm_V X P d 67 [.ref l0, .int l2, .int (h0.1 v2 6)] h0 (some (.int r3)) h3) (q8 : ¬ (r3 = (0 : Int32))) : xm_E X P d co_X10_slipped 0 [some (.ref l0), some (.int l1), some (.int l2), none] [] h (some (.int r3)) h3 := by
  refine xm_E_s r_X10_slipped_0 rfl rfl ?_
  refine xm_E_cs [.int l1] [] r_X10_slipped_1 rfl rfl rfl (Nat.le_of_ble_eq_true rfl) rfl q0 ?_
  refine xm_E_s r_X10_slipped_2 rfl rfl ?_
  refine xm_E_f q1 ?_
  refine xm_E_s r_X10_slipped_3 rfl rfl ?_
  refine xm_E_s r_X10_slipped_4 rfl rfl ?_
  refine xm_E_s r_X10_slipped_5 rfl rfl ?_
  refine xm_E_s r_X10_slipped_6 rfl (xm_T_gr rfl q2 rfl rfl q3) ?_
  refine xm_E_s r_X10_slipped_7 rfl (xm_T_gr rfl q4 rfl rfl q5) ?_
  refine xm_E_s r_X10_slipped_8 rfl (xm_T_gi rfl q6 rfl (Or.inl rfl)) ?_
  refine xm_E_cv [.ref l0, .int l2, .int (h0.1 v2 6)] [] r_X10_slipped_9 rfl rfl (Nat.le_of_ble_eq_true rfl) (xm_rc q2 (by decide)) rfl q7 ?_
  refine xm_E_s r_X10_slipped_10 rfl rfl ?_
  refine xm_E_s (ls1 := [some (.ref l0), some (.int l1), some (.int l2), some (.int r3)]) r_X10_slipped_12 rfl rfl ?_
  refine xm_E_s r_X10_slipped_13 rfl rfl ?_
  refine xm_E_s r_X10_slipped_14 rfl rfl ?_
  refine xm_E_f q8 ?_
  refine xm_E_s r_X10_slipped_15 rfl rfl ?_
  exact xm_E_iret r_X10_slipped_16 rfl rfl
theorem r_X10_years_0 : co_X10_years[0]? = some ((0, .iload_n 1, 0, 0, 0, 0, 0, 0, []) : xm_I) := rfl
theorem r_X10_years_1 : co_X10_years[1]? = some ((1, .invokestatic 347, 1273, 168, 1, 0, 0, 0, []) : xm_I) := rfl
theorem r_X10_years_2 : co_X10_years[2]? = some ((4, .ifCond .eq 32, 0, 0, 17, 0, 0, 0, []) : xm_I) := rfl
theorem r_X10_years_3 : co_X10_years[3]? = some ((7, .iload_n 2, 0, 0, 0, 0, 0, 0, []) : xm_I) := rfl
theorem r_X10_years_4 : co_X10_years[4]? = some ((8, .iconst 1, 0, 0, 0, 0, 1, 0, []) : xm_I) := rfl
theorem r_X10_years_5 : co_X10_years[5]? = some ((9, .if_icmp .lt 27, 0, 0, 17, 0, 0, 0, []) : xm_I) := rfl
theorem r_X10_years_6 : co_X10_years[6]? = some ((12, .iload_n 2, 0, 0, 0, 0, 0, 0, []) : xm_I) := rfl
theorem r_X10_years_7 : co_X10_years[7]? = some ((13, .bipush 20, 0, 0, 0, 0, 20, 0, []) : xm_I) := rfl
theorem r_X10_years_8 : co_X10_years[8]? = some ((15, .if_icmp .gt 21, 0, 0, 17, 0, 0, 0, []) : xm_I) := rfl
theorem r_X10_years_9 : co_X10_years[9]? = some ((18, .aload_n 0, 0, 0, 0, 0, 0, 0, []) : xm_I) := rfl
theorem r_X10_years_10 : co_X10_years[10]? = some ((19, .iload_n 3, 0, 0, 0, 0, 0, 0, []) : xm_I) := rfl
theorem r_X10_years_11 : co_X10_years[11]? = some ((20, .aload_n 0, 0, 0, 0, 0, 0, 0, []) : xm_I) := rfl
theorem r_X10_years_12 : co_X10_years[12]? = some ((21, .getfield 19, 482, 9, 1, 2, 0, 0, []) : xm_I) := rfl
theorem r_X10_years_13 : co_X10_years[13]? = some ((24, .getfield 103, 305, 8, 0, 2, 0, 0, []) : xm_I) := rfl
theorem r_X10_years_14 : co_X10_years[14]? = some ((27, .getfield 255, 226, 0, 6, 0, 0, 0, []) : xm_I) := rfl
theorem r_X10_years_15 : co_X10_years[15]? = some ((30, .invokevirtual 159, 828, 67, 3, 9, 0, 0, []) : xm_I) := rfl
theorem r_X10_years_16 : co_X10_years[16]? = some ((33, .goto 5, 0, 0, 18, 0, 0, 0, []) : xm_I) := rfl
theorem r_X10_years_17 : co_X10_years[17]? = some ((36, .bipush (-2), 0, 0, 0, 0, (-2), 0, []) : xm_I) := rfl
theorem r_X10_years_18 : co_X10_years[18]? = some ((38, .istore 4, 0, 0, 0, 0, 0, 0, []) : xm_I) := rfl
theorem r_X10_years_19 : co_X10_years[19]? = some ((40, .iload 4, 0, 0, 0, 0, 0, 0, []) : xm_I) := rfl
theorem r_X10_years_20 : co_X10_years[20]? = some ((42, .ifCond .eq 6, 0, 0, 23, 0, 0, 0, []) : xm_I) := rfl
theorem r_X10_years_21 : co_X10_years[21]? = some ((45, .iload 4, 0, 0, 0, 0, 0, 0, []) : xm_I) := rfl
theorem r_X10_years_22 : co_X10_years[22]? = some ((47, .ireturn, 0, 0, 0, 0, 0, 0, []) : xm_I) := rfl
theorem r_X10_years_23 : co_X10_years[23]? = some ((48, .iconst 0, 0, 0, 0, 0, 0, 0, []) : xm_I) := rfl
theorem r_X10_years_24 : co_X10_years[24]? = some ((49, .istore 5, 0, 0, 0, 0, 0, 0, []) : xm_I) := rfl
theorem r_X10_years_25 : co_X10_years[25]? = some ((51, .iconst 0, 0, 0, 0, 0, 0, 0, []) : xm_I) := rfl
theorem r_X10_years_26 : co_X10_years[26]? = some ((52, .istore 6, 0, 0, 0, 0, 0, 0, []) : xm_I) := rfl
theorem r_X10_years_27 : co_X10_years[27]? = some ((54, .iload 6, 0, 0, 0, 0, 0, 0, []) : xm_I) := rfl
theorem r_X10_years_28 : co_X10_years[28]? = some ((56, .iload_n 2, 0, 0, 0, 0, 0, 0, []) : xm_I) := rfl
theorem r_X10_years_29 : co_X10_years[29]? = some ((57, .if_icmp .ge 43, 0, 0, 49, 0, 0, 0, []) : xm_I) := rfl
theorem r_X10_years_30 : co_X10_years[30]? = some ((60, .aload_n 0, 0, 0, 0, 0, 0, 0, []) : xm_I) := rfl
theorem r_X10_years_31 : co_X10_years[31]? = some ((61, .getfield 50, 487, 9, 6, 2, 0, 0, []) : xm_I) := rfl
theorem r_X10_years_32 : co_X10_years[32]? = some ((64, .aload_n 0, 0, 0, 0, 0, 0, 0, []) : xm_I) := rfl
theorem r_X10_years_33 : co_X10_years[33]? = some ((65, .getfield 19, 482, 9, 1, 2, 0, 0, []) : xm_I) := rfl
theorem r_X10_years_34 : co_X10_years[34]? = some ((68, .aload_n 0, 0, 0, 0, 0, 0, 0, []) : xm_I) := rfl
theorem r_X10_years_35 : co_X10_years[35]? = some ((69, .getfield 36, 485, 9, 4, 2, 0, 0, []) : xm_I) := rfl
theorem r_X10_years_36 : co_X10_years[36]? = some ((72, .iload_n 3, 0, 0, 0, 0, 0, 0, []) : xm_I) := rfl
theorem r_X10_years_37 : co_X10_years[37]? = some ((73, .aaload, 0, 0, 0, 0, 0, 0, []) : xm_I) := rfl
theorem r_X10_years_38 : co_X10_years[38]? = some ((74, .iload_n 1, 0, 0, 0, 0, 0, 0, []) : xm_I) := rfl
theorem r_X10_years_39 : co_X10_years[39]? = some ((75, .iload 6, 0, 0, 0, 0, 0, 0, []) : xm_I) := rfl
theorem r_X10_years_40 : co_X10_years[40]? = some ((77, .iadd, 0, 0, 0, 0, 0, 0, []) : xm_I) := rfl
theorem r_X10_years_41 : co_X10_years[41]? = some ((78, .invokevirtual 350, 1277, 169, 4, 6, 0, 0, []) : xm_I) := rfl
theorem r_X10_years_42 : co_X10_years[42]? = some ((81, .aload_n 0, 0, 0, 0, 0, 0, 0, []) : xm_I) := rfl
theorem r_X10_years_43 : co_X10_years[43]? = some ((82, .getfield 50, 487, 9, 6, 2, 0, 0, []) : xm_I) := rfl
theorem r_X10_years_44 : co_X10_years[44]? = some ((85, .getfield 354, 405, 6, 3, 0, 0, 0, []) : xm_I) := rfl
theorem r_X10_years_45 : co_X10_years[45]? = some ((88, .ifCond .ne 6, 0, 0, 47, 0, 0, 0, []) : xm_I) := rfl
theorem r_X10_years_46 : co_X10_years[46]? = some ((91, .iinc 5 1, 0, 0, 0, 0, 1, 0, []) : xm_I) := rfl
theorem r_X10_years_47 : co_X10_years[47]? = some ((94, .iinc 6 1, 0, 0, 0, 0, 1, 0, []) : xm_I) := rfl
theorem r_X10_years_48 : co_X10_years[48]? = some ((97, .goto (-43), 0, 0, 27, 0, 0, 0, []) : xm_I) := rfl
theorem r_X10_years_49 : co_X10_years[49]? = some ((100, .iload 5, 0, 0, 0, 0, 0, 0, []) : xm_I) := rfl
theorem r_X10_years_50 : co_X10_years[50]? = some ((102, .ireturn, 0, 0, 0, 0, 0, 0, []) : xm_I) := rfl
theorem p_X10_years_0_0 {X : xm_X} {P : List xm_M} {d : Nat} {h : xm_H} {l0 : Nat} {l1 : Int32} {l2 : Int32} {l3 : Int32} {h0 : xm_H} {r0 : Int32} (q0 : xm_V X P d 168 [.int l1] h (some (.int r0)) h0) (q1 : r0 = (0 : Int32)) : xm_E X P d co_X10_years 0 [some (.ref l0), some (.int l1), some (.int l2), some (.int l3), none, none, none] [] h (some (.int (-2 : Int32))) h0 := by
  refine xm_E_s r_X10_years_0 rfl rfl ?_
  refine xm_E_cs [.int l1] [] r_X10_years_1 rfl rfl rfl (Nat.le_of_ble_eq_true rfl) rfl q0 ?_
  refine xm_E_s r_X10_years_2 rfl rfl ?_
  refine xm_E_t q1 ?_
  refine xm_E_s r_X10_years_17 rfl rfl ?_
  refine xm_E_s (ls1 := [some (.ref l0), some (.int l1), some (.int l2), some (.int l3), some (.int (-2 : Int32)), none, none]) r_X10_years_18 rfl rfl ?_
  refine xm_E_s r_X10_years_19 rfl rfl ?_
  refine xm_E_s r_X10_years_20 rfl rfl ?_
  show xm_E X P d co_X10_years 21 _ _ _ _ _
  refine xm_E_s r_X10_years_21 rfl rfl ?_
  exact xm_E_iret r_X10_years_22 rfl rfl
theorem p_X10_years_0_1 {X : xm_X} {P : List xm_M} {d : Nat} {h : xm_H} {l0 : Nat} {l1 : Int32} {l2 : Int32} {l3 : Int32} {h0 : xm_H} {r0 : Int32} (q0 : xm_V X P d 168 [.int l1] h (some (.int r0)) h0) (q1 : ¬ (r0 = (0 : Int32))) (q2 : l2 < (1 : Int32)) : xm_E X P d co_X10_years 0 [some (.ref l0), some (.int l1), some (.int l2), some (.int l3), none, none, none] [] h (some (.int (-2 : Int32))) h0 := by
  refine xm_E_s r_X10_years_0 rfl rfl ?_
  refine xm_E_cs [.int l1] [] r_X10_years_1 rfl rfl rfl (Nat.le_of_ble_eq_true rfl) rfl q0 ?_
  refine xm_E_s r_X10_years_2 rfl rfl ?_
  refine xm_E_f q1 ?_
  refine xm_E_s r_X10_years_3 rfl rfl ?_
  refine xm_E_s r_X10_years_4 rfl rfl ?_
  refine xm_E_s r_X10_years_5 rfl rfl ?_
  refine xm_E_t q2 ?_
  refine xm_E_s r_X10_years_17 rfl rfl ?_
  refine xm_E_s (ls1 := [some (.ref l0), some (.int l1), some (.int l2), some (.int l3), some (.int (-2 : Int32)), none, none]) r_X10_years_18 rfl rfl ?_
  refine xm_E_s r_X10_years_19 rfl rfl ?_
  refine xm_E_s r_X10_years_20 rfl rfl ?_
  show xm_E X P d co_X10_years 21 _ _ _ _ _
  refine xm_E_s r_X10_years_21 rfl rfl ?_
  exact xm_E_iret r_X10_years_22 rfl rfl
theorem p_X10_years_0_2 {X : xm_X} {P : List xm_M} {d : Nat} {h : xm_H} {l0 : Nat} {l1 : Int32} {l2 : Int32} {l3 : Int32} {h0 : xm_H} {r0 : Int32} (q0 : xm_V X P d 168 [.int l1] h (some (.int r0)) h0) (q1 : ¬ (r0 = (0 : Int32))) (q2 : ¬ (l2 < (1 : Int32))) (q3 : (20 : Int32) < l2) : xm_E X P d co_X10_years 0 [some (.ref l0), some (.int l1), some (.int l2), some (.int l3), none, none, none] [] h (some (.int (-2 : Int32))) h0 := by
  refine xm_E_s r_X10_years_0 rfl rfl ?_
  refine xm_E_cs [.int l1] [] r_X10_years_1 rfl rfl rfl (Nat.le_of_ble_eq_true rfl) rfl q0 ?_
  refine xm_E_s r_X10_years_2 rfl rfl ?_
  refine xm_E_f q1 ?_
  refine xm_E_s r_X10_years_3 rfl rfl ?_
  refine xm_E_s r_X10_years_4 rfl rfl ?_
  refine xm_E_s r_X10_years_5 rfl rfl ?_
  refine xm_E_f q2 ?_
  refine xm_E_s r_X10_years_6 rfl rfl ?_
  refine xm_E_s r_X10_years_7 rfl rfl ?_
  refine xm_E_s r_X10_years_8 rfl rfl ?_
  refine xm_E_t q3 ?_
  refine xm_E_s r_X10_years_17 rfl rfl ?_
  refine xm_E_s (ls1 := [some (.ref l0), some (.int l1), some (.int l2), some (.int l3), some (.int (-2 : Int32)), none, none]) r_X10_years_18 rfl rfl ?_
  refine xm_E_s r_X10_years_19 rfl rfl ?_
  refine xm_E_s r_X10_years_20 rfl rfl ?_
  show xm_E X P d co_X10_years 21 _ _ _ _ _
  refine xm_E_s r_X10_years_21 rfl rfl ?_
  exact xm_E_iret r_X10_years_22 rfl rfl
theorem p_X10_years_0_3 {X : xm_X} {P : List xm_M} {d : Nat} {h : xm_H} {l0 : Nat} {l1 : Int32} {l2 : Int32} {l3 : Int32} {h0 : xm_H} {r0 : Int32} {v1 : Nat} {v2 : Nat} {h3 : xm_H} {r3 : Int32} {ro : Option Value} {ho : xm_H} (q0 : xm_V X P d 168 [.int l1] h (some (.int r0)) h0) (q1 : ¬ (r0 = (0 : Int32))) (q2 : ¬ (l2 < (1 : Int32))) (q3 : ¬ ((20 : Int32) < l2)) (q4 : X.1[l0]? = some (.inr 9)) (q5 : h0.2.2 l0 1 = some v1) (q6 : X.1[v1]? = some (.inr 8)) (q7 : h0.2.2 v1 0 = some v2) (q8 : X.1[v2]? = some (.inr 0)) (q9 : xm_V X P d 67 [.ref l0, .int l3, .int (h0.1 v2 6)] h0 (some (.int r3)) h3) (q10 : r3 = (0 : Int32)) (K : xm_E X P d co_X10_years 27 [some (.ref l0), some (.int l1), some (.int l2), some (.int l3), some (.int r3), some (.int (0 : Int32)), some (.int (0 : Int32))] [] h3 ro ho) : xm_E X P d co_X10_years 0 [some (.ref l0), some (.int l1), some (.int l2), some (.int l3), none, none, none] [] h ro ho := by
  refine xm_E_s r_X10_years_0 rfl rfl ?_
  refine xm_E_cs [.int l1] [] r_X10_years_1 rfl rfl rfl (Nat.le_of_ble_eq_true rfl) rfl q0 ?_
  refine xm_E_s r_X10_years_2 rfl rfl ?_
  refine xm_E_f q1 ?_
  refine xm_E_s r_X10_years_3 rfl rfl ?_
  refine xm_E_s r_X10_years_4 rfl rfl ?_
  refine xm_E_s r_X10_years_5 rfl rfl ?_
  refine xm_E_f q2 ?_
  refine xm_E_s r_X10_years_6 rfl rfl ?_
  refine xm_E_s r_X10_years_7 rfl rfl ?_
  refine xm_E_s r_X10_years_8 rfl rfl ?_
  refine xm_E_f q3 ?_
  refine xm_E_s r_X10_years_9 rfl rfl ?_
  refine xm_E_s r_X10_years_10 rfl rfl ?_
  refine xm_E_s r_X10_years_11 rfl rfl ?_
  refine xm_E_s r_X10_years_12 rfl (xm_T_gr rfl q4 rfl rfl q5) ?_
  refine xm_E_s r_X10_years_13 rfl (xm_T_gr rfl q6 rfl rfl q7) ?_
  refine xm_E_s r_X10_years_14 rfl (xm_T_gi rfl q8 rfl (Or.inl rfl)) ?_
  refine xm_E_cv [.ref l0, .int l3, .int (h0.1 v2 6)] [] r_X10_years_15 rfl rfl (Nat.le_of_ble_eq_true rfl) (xm_rc q4 (by decide)) rfl q9 ?_
  refine xm_E_s r_X10_years_16 rfl rfl ?_
  refine xm_E_s (ls1 := [some (.ref l0), some (.int l1), some (.int l2), some (.int l3), some (.int r3), none, none]) r_X10_years_18 rfl rfl ?_
  refine xm_E_s r_X10_years_19 rfl rfl ?_
  refine xm_E_s r_X10_years_20 rfl rfl ?_
  refine xm_E_t q10 ?_
  refine xm_E_s r_X10_years_23 rfl rfl ?_
  refine xm_E_s (ls1 := [some (.ref l0), some (.int l1), some (.int l2), some (.int l3), some (.int r3), some (.int (0 : Int32)), none]) r_X10_years_24 rfl rfl ?_
  refine xm_E_s r_X10_years_25 rfl rfl ?_
  refine xm_E_s (ls1 := [some (.ref l0), some (.int l1), some (.int l2), some (.int l3), some (.int r3), some (.int (0 : Int32)), some (.int (0 : Int32))]) r_X10_years_26 rfl rfl ?_
  exact K
theorem p_X10_years_0_4 {X : xm_X} {P : List xm_M} {d : Nat} {h : xm_H} {l0 : Nat} {l1 : Int32} {l2 : Int32} {l3 : Int32} {h0 : xm_H} {r0 : Int32} {v1 : Nat} {v2 : Nat} {h3 : xm_H} {r3 : Int32} (q0 : xm_V X P d 168 [.int l1] h (some (.int r0)) h0) (q1 : ¬ (r0 = (0 : Int32))) (q2 : ¬ (l2 < (1 : Int32))) (q3 : ¬ ((20 : Int32) < l2)) (q4 : X.1[l0]? = some (.inr 9)) (q5 : h0.2.2 l0 1 = some v1) (q6 : X.1[v1]? = some (.inr 8)) (q7 : h0.2.2 v1 0 = some v2) (q8 : X.1[v2]? = some (.inr 0)) (q9 : xm_V X P d 67 [.ref l0, .int l3, .int (h0.1 v2 6)] h0 (some (.int r3)) h3) (q10 : ¬ (r3 = (0 : Int32))) : xm_E X P d co_X10_years 0 [some (.ref l0), some (.int l1), some (.int l2), some (.int l3), none, none, none] [] h (some (.int r3)) h3 := by
  refine xm_E_s r_X10_years_0 rfl rfl ?_
  refine xm_E_cs [.int l1] [] r_X10_years_1 rfl rfl rfl (Nat.le_of_ble_eq_true rfl) rfl q0 ?_
  refine xm_E_s r_X10_years_2 rfl rfl ?_
  refine xm_E_f q1 ?_
  refine xm_E_s r_X10_years_3 rfl rfl ?_
  refine xm_E_s r_X10_years_4 rfl rfl ?_
  refine xm_E_s r_X10_years_5 rfl rfl ?_
  refine xm_E_f q2 ?_
  refine xm_E_s r_X10_years_6 rfl rfl ?_
  refine xm_E_s r_X10_years_7 rfl rfl ?_
  refine xm_E_s r_X10_years_8 rfl rfl ?_
  refine xm_E_f q3 ?_
  refine xm_E_s r_X10_years_9 rfl rfl ?_
  refine xm_E_s r_X10_years_10 rfl rfl ?_
  refine xm_E_s r_X10_years_11 rfl rfl ?_
  refine xm_E_s r_X10_years_12 rfl (xm_T_gr rfl q4 rfl rfl q5) ?_
  refine xm_E_s r_X10_years_13 rfl (xm_T_gr rfl q6 rfl rfl q7) ?_
  refine xm_E_s r_X10_years_14 rfl (xm_T_gi rfl q8 rfl (Or.inl rfl)) ?_
  refine xm_E_cv [.ref l0, .int l3, .int (h0.1 v2 6)] [] r_X10_years_15 rfl rfl (Nat.le_of_ble_eq_true rfl) (xm_rc q4 (by decide)) rfl q9 ?_
  refine xm_E_s r_X10_years_16 rfl rfl ?_
  refine xm_E_s (ls1 := [some (.ref l0), some (.int l1), some (.int l2), some (.int l3), some (.int r3), none, none]) r_X10_years_18 rfl rfl ?_
  refine xm_E_s r_X10_years_19 rfl rfl ?_
  refine xm_E_s r_X10_years_20 rfl rfl ?_
  refine xm_E_f q10 ?_
  refine xm_E_s r_X10_years_21 rfl rfl ?_
  exact xm_E_iret r_X10_years_22 rfl rfl
theorem p_X10_years_27_0 {X : xm_X} {P : List xm_M} {d : Nat} {h : xm_H} {l0 : Nat} {l1 : Int32} {l2 : Int32} {l3 : Int32} {l4 : Int32} {l5 : Int32} {l6 : Int32} (q0 : l2 ≤ l6) : xm_E X P d co_X10_years 27 [some (.ref l0), some (.int l1), some (.int l2), some (.int l3), some (.int l4), some (.int l5), some (.int l6)] [] h (some (.int l5)) h := by
  refine xm_E_s r_X10_years_27 rfl rfl ?_
  refine xm_E_s r_X10_years_28 rfl rfl ?_
  refine xm_E_s r_X10_years_29 rfl rfl ?_
  refine xm_E_t q0 ?_
  refine xm_E_s r_X10_years_49 rfl rfl ?_
  exact xm_E_iret r_X10_years_50 rfl rfl
theorem p_X10_years_27_1 {X : xm_X} {P : List xm_M} {d : Nat} {h : xm_H} {l0 : Nat} {l1 : Int32} {l2 : Int32} {l3 : Int32} {l4 : Int32} {l5 : Int32} {l6 : Int32} {v0 : Nat} {v1 : Nat} {v2 : Nat} {n3 : Nat} {b3 : Nat} {v4 : Nat} {h5 : xm_H} {v6 : Nat} {ro : Option Value} {ho : xm_H} (q0 : ¬ (l2 ≤ l6)) (q1 : X.1[l0]? = some (.inr 9)) (q2 : h.2.2 l0 6 = some v0) (q3 : h.2.2 l0 1 = some v1) (q4 : h.2.2 l0 4 = some v2) (q5 : X.1[v2]? = some (.inl (b3, n3))) (q6 : ¬ (l3 < 0 ∨ n3 ≤ l3.toNatClampNeg)) (q7 : b3 = 4 ∨ b3 = 5) (q8 : h.2.2 v2 l3.toNatClampNeg = some v4) (q9 : xm_V X P d 169 [.ref v0, .ref v1, .ref v4, .int (l1 + l6)] h none h5) (q10 : X.1[v0]? = some (.inr 6)) (q11 : h5.2.2 l0 6 = some v6) (q12 : X.1[v6]? = some (.inr 6)) (q13 : h5.1 v6 3 = (0 : Int32)) (K : xm_E X P d co_X10_years 27 [some (.ref l0), some (.int l1), some (.int l2), some (.int l3), some (.int l4), some (.int (l5 + (1 : Int32))), some (.int (l6 + (1 : Int32)))] [] h5 ro ho) : xm_E X P d co_X10_years 27 [some (.ref l0), some (.int l1), some (.int l2), some (.int l3), some (.int l4), some (.int l5), some (.int l6)] [] h ro ho := by
  refine xm_E_s r_X10_years_27 rfl rfl ?_
  refine xm_E_s r_X10_years_28 rfl rfl ?_
  refine xm_E_s r_X10_years_29 rfl rfl ?_
  refine xm_E_f q0 ?_
  refine xm_E_s r_X10_years_30 rfl rfl ?_
  refine xm_E_s r_X10_years_31 rfl (xm_T_gr rfl q1 rfl rfl q2) ?_
  refine xm_E_s r_X10_years_32 rfl rfl ?_
  refine xm_E_s r_X10_years_33 rfl (xm_T_gr rfl q1 rfl rfl q3) ?_
  refine xm_E_s r_X10_years_34 rfl rfl ?_
  refine xm_E_s r_X10_years_35 rfl (xm_T_gr rfl q1 rfl rfl q4) ?_
  refine xm_E_s r_X10_years_36 rfl rfl ?_
  refine xm_E_s r_X10_years_37 rfl (xm_T_aald rfl q5 q7 q6 q8) ?_
  refine xm_E_s r_X10_years_38 rfl rfl ?_
  refine xm_E_s r_X10_years_39 rfl rfl ?_
  refine xm_E_s r_X10_years_40 rfl rfl ?_
  refine xm_E_cv [.ref v0, .ref v1, .ref v4, .int (l1 + l6)] [] r_X10_years_41 rfl rfl (Nat.le_of_ble_eq_true rfl) (xm_rc q10 (by decide)) rfl q9 ?_
  refine xm_E_s r_X10_years_42 rfl rfl ?_
  refine xm_E_s r_X10_years_43 rfl (xm_T_gr rfl q1 rfl rfl q11) ?_
  refine xm_E_s r_X10_years_44 rfl (xm_T_gi rfl q12 rfl (Or.inl rfl)) ?_
  refine xm_E_s r_X10_years_45 rfl rfl ?_
  refine xm_E_t q13 ?_
  refine xm_E_s (ls1 := [some (.ref l0), some (.int l1), some (.int l2), some (.int l3), some (.int l4), some (.int (l5 + (1 : Int32))), some (.int l6)]) r_X10_years_46 rfl rfl ?_
  refine xm_E_s (ls1 := [some (.ref l0), some (.int l1), some (.int l2), some (.int l3), some (.int l4), some (.int (l5 + (1 : Int32))), some (.int (l6 + (1 : Int32)))]) r_X10_years_47 rfl rfl ?_
  refine xm_E_s r_X10_years_48 rfl rfl ?_
  exact K
theorem p_X10_years_27_2 {X : xm_X} {P : List xm_M} {d : Nat} {h : xm_H} {l0 : Nat} {l1 : Int32} {l2 : Int32} {l3 : Int32} {l4 : Int32} {l5 : Int32} {l6 : Int32} {v0 : Nat} {v1 : Nat} {v2 : Nat} {n3 : Nat} {b3 : Nat} {v4 : Nat} {h5 : xm_H} {v6 : Nat} {ro : Option Value} {ho : xm_H} (q0 : ¬ (l2 ≤ l6)) (q1 : X.1[l0]? = some (.inr 9)) (q2 : h.2.2 l0 6 = some v0) (q3 : h.2.2 l0 1 = some v1) (q4 : h.2.2 l0 4 = some v2) (q5 : X.1[v2]? = some (.inl (b3, n3))) (q6 : ¬ (l3 < 0 ∨ n3 ≤ l3.toNatClampNeg)) (q7 : b3 = 4 ∨ b3 = 5) (q8 : h.2.2 v2 l3.toNatClampNeg = some v4) (q9 : xm_V X P d 169 [.ref v0, .ref v1, .ref v4, .int (l1 + l6)] h none h5) (q10 : X.1[v0]? = some (.inr 6)) (q11 : h5.2.2 l0 6 = some v6) (q12 : X.1[v6]? = some (.inr 6)) (q13 : ¬ (h5.1 v6 3 = (0 : Int32))) (K : xm_E X P d co_X10_years 27 [some (.ref l0), some (.int l1), some (.int l2), some (.int l3), some (.int l4), some (.int l5), some (.int (l6 + (1 : Int32)))] [] h5 ro ho) : xm_E X P d co_X10_years 27 [some (.ref l0), some (.int l1), some (.int l2), some (.int l3), some (.int l4), some (.int l5), some (.int l6)] [] h ro ho := by
  refine xm_E_s r_X10_years_27 rfl rfl ?_
  refine xm_E_s r_X10_years_28 rfl rfl ?_
  refine xm_E_s r_X10_years_29 rfl rfl ?_
  refine xm_E_f q0 ?_
  refine xm_E_s r_X10_years_30 rfl rfl ?_
  refine xm_E_s r_X10_years_31 rfl (xm_T_gr rfl q1 rfl rfl q2) ?_
  refine xm_E_s r_X10_years_32 rfl rfl ?_
  refine xm_E_s r_X10_years_33 rfl (xm_T_gr rfl q1 rfl rfl q3) ?_
  refine xm_E_s r_X10_years_34 rfl rfl ?_
  refine xm_E_s r_X10_years_35 rfl (xm_T_gr rfl q1 rfl rfl q4) ?_
  refine xm_E_s r_X10_years_36 rfl rfl ?_
  refine xm_E_s r_X10_years_37 rfl (xm_T_aald rfl q5 q7 q6 q8) ?_
  refine xm_E_s r_X10_years_38 rfl rfl ?_
  refine xm_E_s r_X10_years_39 rfl rfl ?_
  refine xm_E_s r_X10_years_40 rfl rfl ?_
  refine xm_E_cv [.ref v0, .ref v1, .ref v4, .int (l1 + l6)] [] r_X10_years_41 rfl rfl (Nat.le_of_ble_eq_true rfl) (xm_rc q10 (by decide)) rfl q9 ?_
  refine xm_E_s r_X10_years_42 rfl rfl ?_
  refine xm_E_s r_X10_years_43 rfl (xm_T_gr rfl q1 rfl rfl q11) ?_
  refine xm_E_s r_X10_years_44 rfl (xm_T_gi rfl q12 rfl (Or.inl rfl)) ?_
  refine xm_E_s r_X10_years_45 rfl rfl ?_
  refine xm_E_f q13 ?_
  refine xm_E_s (ls1 := [some (.ref l0), some (.int l1), some (.int l2), some (.int l3), some (.int l4), some (.int l5), some (.int (l6 + (1 : Int32)))]) r_X10_years_47 rfl rfl ?_
  refine xm_E_s r_X10_years_48 rfl rfl ?_
  exact K
theorem r_X10_count_0 : co_X10_count[0]? = some ((0, .iload_n 1, 0, 0, 0, 0, 0, 0, []) : xm_I) := rfl
theorem r_X10_count_1 : co_X10_count[1]? = some ((1, .tableswitch 179 0 10 #[59, 70, 81, 92, 103, 114, 125, 133, 155, 166, 174], 0, 0, 58, 0, 0, 0, [2, 7, 12, 17, 22, 27, 32, 36, 46, 51, 55]) : xm_I) := rfl
theorem r_X10_count_2 : co_X10_count[2]? = some ((60, .aload_n 0, 0, 0, 0, 0, 0, 0, []) : xm_I) := rfl
theorem r_X10_count_3 : co_X10_count[3]? = some ((61, .getfield 19, 482, 9, 1, 2, 0, 0, []) : xm_I) := rfl
theorem r_X10_count_4 : co_X10_count[4]? = some ((64, .getfield 103, 305, 8, 0, 2, 0, 0, []) : xm_I) := rfl
theorem r_X10_count_5 : co_X10_count[5]? = some ((67, .getfield 255, 226, 0, 6, 0, 0, 0, []) : xm_I) := rfl
theorem r_X10_count_6 : co_X10_count[6]? = some ((70, .ireturn, 0, 0, 0, 0, 0, 0, []) : xm_I) := rfl
theorem r_X10_count_7 : co_X10_count[7]? = some ((71, .aload_n 0, 0, 0, 0, 0, 0, 0, []) : xm_I) := rfl
theorem r_X10_count_8 : co_X10_count[8]? = some ((72, .getfield 19, 482, 9, 1, 2, 0, 0, []) : xm_I) := rfl
theorem r_X10_count_9 : co_X10_count[9]? = some ((75, .getfield 103, 305, 8, 0, 2, 0, 0, []) : xm_I) := rfl
theorem r_X10_count_10 : co_X10_count[10]? = some ((78, .getfield 336, 241, 0, 10, 0, 0, 0, []) : xm_I) := rfl
theorem r_X10_count_11 : co_X10_count[11]? = some ((81, .ireturn, 0, 0, 0, 0, 0, 0, []) : xm_I) := rfl
theorem r_X10_count_12 : co_X10_count[12]? = some ((82, .aload_n 0, 0, 0, 0, 0, 0, 0, []) : xm_I) := rfl
theorem r_X10_count_13 : co_X10_count[13]? = some ((83, .getfield 19, 482, 9, 1, 2, 0, 0, []) : xm_I) := rfl
theorem r_X10_count_14 : co_X10_count[14]? = some ((86, .getfield 103, 305, 8, 0, 2, 0, 0, []) : xm_I) := rfl
theorem r_X10_count_15 : co_X10_count[15]? = some ((89, .getfield 341, 245, 0, 11, 0, 0, 0, []) : xm_I) := rfl
theorem r_X10_count_16 : co_X10_count[16]? = some ((92, .ireturn, 0, 0, 0, 0, 0, 0, []) : xm_I) := rfl
theorem r_X10_count_17 : co_X10_count[17]? = some ((93, .aload_n 0, 0, 0, 0, 0, 0, 0, []) : xm_I) := rfl
theorem r_X10_count_18 : co_X10_count[18]? = some ((94, .getfield 19, 482, 9, 1, 2, 0, 0, []) : xm_I) := rfl
theorem r_X10_count_19 : co_X10_count[19]? = some ((97, .getfield 103, 305, 8, 0, 2, 0, 0, []) : xm_I) := rfl
theorem r_X10_count_20 : co_X10_count[20]? = some ((100, .getfield 130, 219, 0, 4, 0, 0, 0, []) : xm_I) := rfl
theorem r_X10_count_21 : co_X10_count[21]? = some ((103, .ireturn, 0, 0, 0, 0, 0, 0, []) : xm_I) := rfl
theorem r_X10_count_22 : co_X10_count[22]? = some ((104, .aload_n 0, 0, 0, 0, 0, 0, 0, []) : xm_I) := rfl
theorem r_X10_count_23 : co_X10_count[23]? = some ((105, .getfield 19, 482, 9, 1, 2, 0, 0, []) : xm_I) := rfl
theorem r_X10_count_24 : co_X10_count[24]? = some ((108, .getfield 103, 305, 8, 0, 2, 0, 0, []) : xm_I) := rfl
theorem r_X10_count_25 : co_X10_count[25]? = some ((111, .getfield 357, 223, 0, 5, 0, 0, 0, []) : xm_I) := rfl
theorem r_X10_count_26 : co_X10_count[26]? = some ((114, .ireturn, 0, 0, 0, 0, 0, 0, []) : xm_I) := rfl
theorem r_X10_count_27 : co_X10_count[27]? = some ((115, .aload_n 0, 0, 0, 0, 0, 0, 0, []) : xm_I) := rfl
theorem r_X10_count_28 : co_X10_count[28]? = some ((116, .getfield 19, 482, 9, 1, 2, 0, 0, []) : xm_I) := rfl
theorem r_X10_count_29 : co_X10_count[29]? = some ((119, .getfield 103, 305, 8, 0, 2, 0, 0, []) : xm_I) := rfl
theorem r_X10_count_30 : co_X10_count[30]? = some ((122, .getfield 307, 237, 0, 9, 0, 0, 0, []) : xm_I) := rfl
theorem r_X10_count_31 : co_X10_count[31]? = some ((125, .ireturn, 0, 0, 0, 0, 0, 0, []) : xm_I) := rfl
theorem r_X10_count_32 : co_X10_count[32]? = some ((126, .aload_n 0, 0, 0, 0, 0, 0, 0, []) : xm_I) := rfl
theorem r_X10_count_33 : co_X10_count[33]? = some ((127, .getfield 19, 482, 9, 1, 2, 0, 0, []) : xm_I) := rfl
theorem r_X10_count_34 : co_X10_count[34]? = some ((130, .getfield 152, 308, 8, 2, 0, 0, 0, []) : xm_I) := rfl
theorem r_X10_count_35 : co_X10_count[35]? = some ((133, .ireturn, 0, 0, 0, 0, 0, 0, []) : xm_I) := rfl
theorem r_X10_count_36 : co_X10_count[36]? = some ((134, .aload_n 0, 0, 0, 0, 0, 0, 0, []) : xm_I) := rfl
theorem r_X10_count_37 : co_X10_count[37]? = some ((135, .getfield 19, 482, 9, 1, 2, 0, 0, []) : xm_I) := rfl
theorem r_X10_count_38 : co_X10_count[38]? = some ((138, .getfield 103, 305, 8, 0, 2, 0, 0, []) : xm_I) := rfl
theorem r_X10_count_39 : co_X10_count[39]? = some ((141, .getfield 187, 249, 0, 12, 2, 0, 0, []) : xm_I) := rfl
theorem r_X10_count_40 : co_X10_count[40]? = some ((144, .invokevirtual 360, 877, 79, 1, 7, 0, 0, []) : xm_I) := rfl
theorem r_X10_count_41 : co_X10_count[41]? = some ((147, .ifCond .eq 7, 0, 0, 44, 0, 0, 0, []) : xm_I) := rfl
theorem r_X10_count_42 : co_X10_count[42]? = some ((150, .iconst 1, 0, 0, 0, 0, 1, 0, []) : xm_I) := rfl
theorem r_X10_count_43 : co_X10_count[43]? = some ((151, .goto 4, 0, 0, 45, 0, 0, 0, []) : xm_I) := rfl
theorem r_X10_count_44 : co_X10_count[44]? = some ((154, .iconst 0, 0, 0, 0, 0, 0, 0, []) : xm_I) := rfl
theorem r_X10_count_45 : co_X10_count[45]? = some ((155, .ireturn, 0, 0, 0, 0, 0, 0, []) : xm_I) := rfl
theorem r_X10_count_46 : co_X10_count[46]? = some ((156, .aload_n 0, 0, 0, 0, 0, 0, 0, []) : xm_I) := rfl
theorem r_X10_count_47 : co_X10_count[47]? = some ((157, .getfield 19, 482, 9, 1, 2, 0, 0, []) : xm_I) := rfl
theorem r_X10_count_48 : co_X10_count[48]? = some ((160, .getfield 103, 305, 8, 0, 2, 0, 0, []) : xm_I) := rfl
theorem r_X10_count_49 : co_X10_count[49]? = some ((163, .getfield 107, 208, 0, 0, 0, 0, 0, []) : xm_I) := rfl
theorem r_X10_count_50 : co_X10_count[50]? = some ((166, .ireturn, 0, 0, 0, 0, 0, 0, []) : xm_I) := rfl
theorem r_X10_count_51 : co_X10_count[51]? = some ((167, .aload_n 0, 0, 0, 0, 0, 0, 0, []) : xm_I) := rfl
theorem r_X10_count_52 : co_X10_count[52]? = some ((168, .getfield 10, 481, 9, 0, 2, 0, 0, []) : xm_I) := rfl
theorem r_X10_count_53 : co_X10_count[53]? = some ((171, .getfield 77, 146, 5, 1, 0, 0, 0, []) : xm_I) := rfl
theorem r_X10_count_54 : co_X10_count[54]? = some ((174, .ireturn, 0, 0, 0, 0, 0, 0, []) : xm_I) := rfl
theorem r_X10_count_55 : co_X10_count[55]? = some ((175, .aload_n 0, 0, 0, 0, 0, 0, 0, []) : xm_I) := rfl
theorem r_X10_count_56 : co_X10_count[56]? = some ((176, .invokevirtual 365, 1306, 174, 1, 9, 0, 0, []) : xm_I) := rfl
theorem r_X10_count_57 : co_X10_count[57]? = some ((179, .ireturn, 0, 0, 0, 0, 0, 0, []) : xm_I) := rfl
theorem r_X10_count_58 : co_X10_count[58]? = some ((180, .iconst (-1), 0, 0, 0, 0, (-1), 0, []) : xm_I) := rfl
theorem r_X10_count_59 : co_X10_count[59]? = some ((181, .ireturn, 0, 0, 0, 0, 0, 0, []) : xm_I) := rfl
theorem p_X10_count_0_0 {X : xm_X} {P : List xm_M} {d : Nat} {h : xm_H} {l0 : Nat} {l1 : Int32} {v0 : Nat} {v1 : Nat} (q0 : l1 = (0 : Int32)) (q1 : X.1[l0]? = some (.inr 9)) (q2 : h.2.2 l0 1 = some v0) (q3 : X.1[v0]? = some (.inr 8)) (q4 : h.2.2 v0 0 = some v1) (q5 : X.1[v1]? = some (.inr 0)) : xm_E X P d co_X10_count 0 [some (.ref l0), some (.int l1)] [] h (some (.int (h.1 v1 6))) h := by
  refine xm_E_s r_X10_count_0 rfl rfl ?_
  refine xm_E_s r_X10_count_1 rfl (xm_T_tab (0 : Int32) 2 rfl q0 (by decide) rfl) ?_
  refine xm_E_s r_X10_count_2 rfl rfl ?_
  refine xm_E_s r_X10_count_3 rfl (xm_T_gr rfl q1 rfl rfl q2) ?_
  refine xm_E_s r_X10_count_4 rfl (xm_T_gr rfl q3 rfl rfl q4) ?_
  refine xm_E_s r_X10_count_5 rfl (xm_T_gi rfl q5 rfl (Or.inl rfl)) ?_
  exact xm_E_iret r_X10_count_6 rfl rfl
theorem p_X10_count_0_1 {X : xm_X} {P : List xm_M} {d : Nat} {h : xm_H} {l0 : Nat} {l1 : Int32} {v0 : Nat} {v1 : Nat} (q0 : l1 = (1 : Int32)) (q1 : X.1[l0]? = some (.inr 9)) (q2 : h.2.2 l0 1 = some v0) (q3 : X.1[v0]? = some (.inr 8)) (q4 : h.2.2 v0 0 = some v1) (q5 : X.1[v1]? = some (.inr 0)) : xm_E X P d co_X10_count 0 [some (.ref l0), some (.int l1)] [] h (some (.int (h.1 v1 10))) h := by
  refine xm_E_s r_X10_count_0 rfl rfl ?_
  refine xm_E_s r_X10_count_1 rfl (xm_T_tab (1 : Int32) 7 rfl q0 (by decide) rfl) ?_
  refine xm_E_s r_X10_count_7 rfl rfl ?_
  refine xm_E_s r_X10_count_8 rfl (xm_T_gr rfl q1 rfl rfl q2) ?_
  refine xm_E_s r_X10_count_9 rfl (xm_T_gr rfl q3 rfl rfl q4) ?_
  refine xm_E_s r_X10_count_10 rfl (xm_T_gi rfl q5 rfl (Or.inl rfl)) ?_
  exact xm_E_iret r_X10_count_11 rfl rfl
theorem p_X10_count_0_2 {X : xm_X} {P : List xm_M} {d : Nat} {h : xm_H} {l0 : Nat} {l1 : Int32} {v0 : Nat} {v1 : Nat} (q0 : l1 = (2 : Int32)) (q1 : X.1[l0]? = some (.inr 9)) (q2 : h.2.2 l0 1 = some v0) (q3 : X.1[v0]? = some (.inr 8)) (q4 : h.2.2 v0 0 = some v1) (q5 : X.1[v1]? = some (.inr 0)) : xm_E X P d co_X10_count 0 [some (.ref l0), some (.int l1)] [] h (some (.int (h.1 v1 11))) h := by
  refine xm_E_s r_X10_count_0 rfl rfl ?_
  refine xm_E_s r_X10_count_1 rfl (xm_T_tab (2 : Int32) 12 rfl q0 (by decide) rfl) ?_
  refine xm_E_s r_X10_count_12 rfl rfl ?_
  refine xm_E_s r_X10_count_13 rfl (xm_T_gr rfl q1 rfl rfl q2) ?_
  refine xm_E_s r_X10_count_14 rfl (xm_T_gr rfl q3 rfl rfl q4) ?_
  refine xm_E_s r_X10_count_15 rfl (xm_T_gi rfl q5 rfl (Or.inl rfl)) ?_
  exact xm_E_iret r_X10_count_16 rfl rfl
theorem p_X10_count_0_3 {X : xm_X} {P : List xm_M} {d : Nat} {h : xm_H} {l0 : Nat} {l1 : Int32} {v0 : Nat} {v1 : Nat} (q0 : l1 = (3 : Int32)) (q1 : X.1[l0]? = some (.inr 9)) (q2 : h.2.2 l0 1 = some v0) (q3 : X.1[v0]? = some (.inr 8)) (q4 : h.2.2 v0 0 = some v1) (q5 : X.1[v1]? = some (.inr 0)) : xm_E X P d co_X10_count 0 [some (.ref l0), some (.int l1)] [] h (some (.int (h.1 v1 4))) h := by
  refine xm_E_s r_X10_count_0 rfl rfl ?_
  refine xm_E_s r_X10_count_1 rfl (xm_T_tab (3 : Int32) 17 rfl q0 (by decide) rfl) ?_
  refine xm_E_s r_X10_count_17 rfl rfl ?_
  refine xm_E_s r_X10_count_18 rfl (xm_T_gr rfl q1 rfl rfl q2) ?_
  refine xm_E_s r_X10_count_19 rfl (xm_T_gr rfl q3 rfl rfl q4) ?_
  refine xm_E_s r_X10_count_20 rfl (xm_T_gi rfl q5 rfl (Or.inl rfl)) ?_
  exact xm_E_iret r_X10_count_21 rfl rfl
theorem p_X10_count_0_4 {X : xm_X} {P : List xm_M} {d : Nat} {h : xm_H} {l0 : Nat} {l1 : Int32} {v0 : Nat} {v1 : Nat} (q0 : l1 = (4 : Int32)) (q1 : X.1[l0]? = some (.inr 9)) (q2 : h.2.2 l0 1 = some v0) (q3 : X.1[v0]? = some (.inr 8)) (q4 : h.2.2 v0 0 = some v1) (q5 : X.1[v1]? = some (.inr 0)) : xm_E X P d co_X10_count 0 [some (.ref l0), some (.int l1)] [] h (some (.int (h.1 v1 5))) h := by
  refine xm_E_s r_X10_count_0 rfl rfl ?_
  refine xm_E_s r_X10_count_1 rfl (xm_T_tab (4 : Int32) 22 rfl q0 (by decide) rfl) ?_
  refine xm_E_s r_X10_count_22 rfl rfl ?_
  refine xm_E_s r_X10_count_23 rfl (xm_T_gr rfl q1 rfl rfl q2) ?_
  refine xm_E_s r_X10_count_24 rfl (xm_T_gr rfl q3 rfl rfl q4) ?_
  refine xm_E_s r_X10_count_25 rfl (xm_T_gi rfl q5 rfl (Or.inl rfl)) ?_
  exact xm_E_iret r_X10_count_26 rfl rfl
theorem p_X10_count_0_5 {X : xm_X} {P : List xm_M} {d : Nat} {h : xm_H} {l0 : Nat} {l1 : Int32} {v0 : Nat} {v1 : Nat} (q0 : l1 = (5 : Int32)) (q1 : X.1[l0]? = some (.inr 9)) (q2 : h.2.2 l0 1 = some v0) (q3 : X.1[v0]? = some (.inr 8)) (q4 : h.2.2 v0 0 = some v1) (q5 : X.1[v1]? = some (.inr 0)) : xm_E X P d co_X10_count 0 [some (.ref l0), some (.int l1)] [] h (some (.int (h.1 v1 9))) h := by
  refine xm_E_s r_X10_count_0 rfl rfl ?_
  refine xm_E_s r_X10_count_1 rfl (xm_T_tab (5 : Int32) 27 rfl q0 (by decide) rfl) ?_
  refine xm_E_s r_X10_count_27 rfl rfl ?_
  refine xm_E_s r_X10_count_28 rfl (xm_T_gr rfl q1 rfl rfl q2) ?_
  refine xm_E_s r_X10_count_29 rfl (xm_T_gr rfl q3 rfl rfl q4) ?_
  refine xm_E_s r_X10_count_30 rfl (xm_T_gi rfl q5 rfl (Or.inl rfl)) ?_
  exact xm_E_iret r_X10_count_31 rfl rfl
theorem p_X10_count_0_6 {X : xm_X} {P : List xm_M} {d : Nat} {h : xm_H} {l0 : Nat} {l1 : Int32} {v0 : Nat} (q0 : l1 = (6 : Int32)) (q1 : X.1[l0]? = some (.inr 9)) (q2 : h.2.2 l0 1 = some v0) (q3 : X.1[v0]? = some (.inr 8)) : xm_E X P d co_X10_count 0 [some (.ref l0), some (.int l1)] [] h (some (.int (h.1 v0 2))) h := by
  refine xm_E_s r_X10_count_0 rfl rfl ?_
  refine xm_E_s r_X10_count_1 rfl (xm_T_tab (6 : Int32) 32 rfl q0 (by decide) rfl) ?_
  refine xm_E_s r_X10_count_32 rfl rfl ?_
  refine xm_E_s r_X10_count_33 rfl (xm_T_gr rfl q1 rfl rfl q2) ?_
  refine xm_E_s r_X10_count_34 rfl (xm_T_gi rfl q3 rfl (Or.inl rfl)) ?_
  exact xm_E_iret r_X10_count_35 rfl rfl
theorem p_X10_count_0_7 {X : xm_X} {P : List xm_M} {d : Nat} {h : xm_H} {l0 : Nat} {l1 : Int32} {v0 : Nat} {v1 : Nat} {v2 : Nat} {h3 : xm_H} {r3 : Int32} (q0 : l1 = (7 : Int32)) (q1 : X.1[l0]? = some (.inr 9)) (q2 : h.2.2 l0 1 = some v0) (q3 : X.1[v0]? = some (.inr 8)) (q4 : h.2.2 v0 0 = some v1) (q5 : X.1[v1]? = some (.inr 0)) (q6 : h.2.2 v1 12 = some v2) (q7 : xm_V X P d 79 [.ref v2] h (some (.int r3)) h3) (q8 : X.1[v2]? = some (.inr 7)) (q9 : r3 = (0 : Int32)) : xm_E X P d co_X10_count 0 [some (.ref l0), some (.int l1)] [] h (some (.int (0 : Int32))) h3 := by
  refine xm_E_s r_X10_count_0 rfl rfl ?_
  refine xm_E_s r_X10_count_1 rfl (xm_T_tab (7 : Int32) 36 rfl q0 (by decide) rfl) ?_
  refine xm_E_s r_X10_count_36 rfl rfl ?_
  refine xm_E_s r_X10_count_37 rfl (xm_T_gr rfl q1 rfl rfl q2) ?_
  refine xm_E_s r_X10_count_38 rfl (xm_T_gr rfl q3 rfl rfl q4) ?_
  refine xm_E_s r_X10_count_39 rfl (xm_T_gr rfl q5 rfl rfl q6) ?_
  refine xm_E_cv [.ref v2] [] r_X10_count_40 rfl rfl (Nat.le_of_ble_eq_true rfl) (xm_rc q8 (by decide)) rfl q7 ?_
  refine xm_E_s r_X10_count_41 rfl rfl ?_
  refine xm_E_t q9 ?_
  refine xm_E_s r_X10_count_44 rfl rfl ?_
  exact xm_E_iret r_X10_count_45 rfl rfl
theorem p_X10_count_0_8 {X : xm_X} {P : List xm_M} {d : Nat} {h : xm_H} {l0 : Nat} {l1 : Int32} {v0 : Nat} {v1 : Nat} {v2 : Nat} {h3 : xm_H} {r3 : Int32} (q0 : l1 = (7 : Int32)) (q1 : X.1[l0]? = some (.inr 9)) (q2 : h.2.2 l0 1 = some v0) (q3 : X.1[v0]? = some (.inr 8)) (q4 : h.2.2 v0 0 = some v1) (q5 : X.1[v1]? = some (.inr 0)) (q6 : h.2.2 v1 12 = some v2) (q7 : xm_V X P d 79 [.ref v2] h (some (.int r3)) h3) (q8 : X.1[v2]? = some (.inr 7)) (q9 : ¬ (r3 = (0 : Int32))) : xm_E X P d co_X10_count 0 [some (.ref l0), some (.int l1)] [] h (some (.int (1 : Int32))) h3 := by
  refine xm_E_s r_X10_count_0 rfl rfl ?_
  refine xm_E_s r_X10_count_1 rfl (xm_T_tab (7 : Int32) 36 rfl q0 (by decide) rfl) ?_
  refine xm_E_s r_X10_count_36 rfl rfl ?_
  refine xm_E_s r_X10_count_37 rfl (xm_T_gr rfl q1 rfl rfl q2) ?_
  refine xm_E_s r_X10_count_38 rfl (xm_T_gr rfl q3 rfl rfl q4) ?_
  refine xm_E_s r_X10_count_39 rfl (xm_T_gr rfl q5 rfl rfl q6) ?_
  refine xm_E_cv [.ref v2] [] r_X10_count_40 rfl rfl (Nat.le_of_ble_eq_true rfl) (xm_rc q8 (by decide)) rfl q7 ?_
  refine xm_E_s r_X10_count_41 rfl rfl ?_
  refine xm_E_f q9 ?_
  refine xm_E_s r_X10_count_42 rfl rfl ?_
  refine xm_E_s r_X10_count_43 rfl rfl ?_
  exact xm_E_iret r_X10_count_45 rfl rfl
theorem p_X10_count_0_9 {X : xm_X} {P : List xm_M} {d : Nat} {h : xm_H} {l0 : Nat} {l1 : Int32} {v0 : Nat} {v1 : Nat} (q0 : l1 = (8 : Int32)) (q1 : X.1[l0]? = some (.inr 9)) (q2 : h.2.2 l0 1 = some v0) (q3 : X.1[v0]? = some (.inr 8)) (q4 : h.2.2 v0 0 = some v1) (q5 : X.1[v1]? = some (.inr 0)) : xm_E X P d co_X10_count 0 [some (.ref l0), some (.int l1)] [] h (some (.int (h.1 v1 0))) h := by
  refine xm_E_s r_X10_count_0 rfl rfl ?_
  refine xm_E_s r_X10_count_1 rfl (xm_T_tab (8 : Int32) 46 rfl q0 (by decide) rfl) ?_
  refine xm_E_s r_X10_count_46 rfl rfl ?_
  refine xm_E_s r_X10_count_47 rfl (xm_T_gr rfl q1 rfl rfl q2) ?_
  refine xm_E_s r_X10_count_48 rfl (xm_T_gr rfl q3 rfl rfl q4) ?_
  refine xm_E_s r_X10_count_49 rfl (xm_T_gi rfl q5 rfl (Or.inl rfl)) ?_
  exact xm_E_iret r_X10_count_50 rfl rfl
theorem p_X10_count_0_10 {X : xm_X} {P : List xm_M} {d : Nat} {h : xm_H} {l0 : Nat} {l1 : Int32} {v0 : Nat} (q0 : l1 = (9 : Int32)) (q1 : X.1[l0]? = some (.inr 9)) (q2 : h.2.2 l0 0 = some v0) (q3 : X.1[v0]? = some (.inr 5)) : xm_E X P d co_X10_count 0 [some (.ref l0), some (.int l1)] [] h (some (.int (h.1 v0 1))) h := by
  refine xm_E_s r_X10_count_0 rfl rfl ?_
  refine xm_E_s r_X10_count_1 rfl (xm_T_tab (9 : Int32) 51 rfl q0 (by decide) rfl) ?_
  refine xm_E_s r_X10_count_51 rfl rfl ?_
  refine xm_E_s r_X10_count_52 rfl (xm_T_gr rfl q1 rfl rfl q2) ?_
  refine xm_E_s r_X10_count_53 rfl (xm_T_gi rfl q3 rfl (Or.inl rfl)) ?_
  exact xm_E_iret r_X10_count_54 rfl rfl
theorem p_X10_count_0_11 {X : xm_X} {P : List xm_M} {d : Nat} {h : xm_H} {l0 : Nat} {l1 : Int32} {h0 : xm_H} {r0 : Int32} (q0 : l1 = (10 : Int32)) (q1 : xm_V X P d 174 [.ref l0] h (some (.int r0)) h0) (q2 : X.1[l0]? = some (.inr 9)) : xm_E X P d co_X10_count 0 [some (.ref l0), some (.int l1)] [] h (some (.int r0)) h0 := by
  refine xm_E_s r_X10_count_0 rfl rfl ?_
  refine xm_E_s r_X10_count_1 rfl (xm_T_tab (10 : Int32) 55 rfl q0 (by decide) rfl) ?_
  refine xm_E_s r_X10_count_55 rfl rfl ?_
  refine xm_E_cv [.ref l0] [] r_X10_count_56 rfl rfl (Nat.le_of_ble_eq_true rfl) (xm_rc q2 (by decide)) rfl q1 ?_
  exact xm_E_iret r_X10_count_57 rfl rfl
theorem p_X10_count_0_12 {X : xm_X} {P : List xm_M} {d : Nat} {h : xm_H} {l0 : Nat} {l1 : Int32} (q0 : l1.toInt < 0 ∨ 10 < l1.toInt) : xm_E X P d co_X10_count 0 [some (.ref l0), some (.int l1)] [] h (some (.int (-1 : Int32))) h := by
  refine xm_E_s r_X10_count_0 rfl rfl ?_
  refine xm_E_s r_X10_count_1 rfl (xm_T_tabd rfl q0) ?_
  refine xm_E_s r_X10_count_58 rfl rfl ?_
  exact xm_E_iret r_X10_count_59 rfl rfl
theorem r_X10_slotsHeld_0 : co_X10_slotsHeld[0]? = some ((0, .iconst 0, 0, 0, 0, 0, 0, 0, []) : xm_I) := rfl
theorem r_X10_slotsHeld_1 : co_X10_slotsHeld[1]? = some ((1, .istore_n 1, 0, 0, 0, 0, 0, 0, []) : xm_I) := rfl
theorem r_X10_slotsHeld_2 : co_X10_slotsHeld[2]? = some ((2, .iconst 0, 0, 0, 0, 0, 0, 0, []) : xm_I) := rfl
theorem r_X10_slotsHeld_3 : co_X10_slotsHeld[3]? = some ((3, .istore_n 2, 0, 0, 0, 0, 0, 0, []) : xm_I) := rfl
theorem r_X10_slotsHeld_4 : co_X10_slotsHeld[4]? = some ((4, .iload_n 2, 0, 0, 0, 0, 0, 0, []) : xm_I) := rfl
theorem r_X10_slotsHeld_5 : co_X10_slotsHeld[5]? = some ((5, .iconst 4, 0, 0, 0, 0, 4, 0, []) : xm_I) := rfl
theorem r_X10_slotsHeld_6 : co_X10_slotsHeld[6]? = some ((6, .if_icmp .ge 24, 0, 0, 16, 0, 0, 0, []) : xm_I) := rfl
theorem r_X10_slotsHeld_7 : co_X10_slotsHeld[7]? = some ((9, .aload_n 0, 0, 0, 0, 0, 0, 0, []) : xm_I) := rfl
theorem r_X10_slotsHeld_8 : co_X10_slotsHeld[8]? = some ((10, .getfield 36, 485, 9, 4, 2, 0, 0, []) : xm_I) := rfl
theorem r_X10_slotsHeld_9 : co_X10_slotsHeld[9]? = some ((13, .iload_n 2, 0, 0, 0, 0, 0, 0, []) : xm_I) := rfl
theorem r_X10_slotsHeld_10 : co_X10_slotsHeld[10]? = some ((14, .aaload, 0, 0, 0, 0, 0, 0, []) : xm_I) := rfl
theorem r_X10_slotsHeld_11 : co_X10_slotsHeld[11]? = some ((15, .getfield 313, 465, 2, 1, 3, 0, 0, []) : xm_I) := rfl
theorem r_X10_slotsHeld_12 : co_X10_slotsHeld[12]? = some ((18, .ifCond .eq 6, 0, 0, 14, 0, 0, 0, []) : xm_I) := rfl
theorem r_X10_slotsHeld_13 : co_X10_slotsHeld[13]? = some ((21, .iinc 1 1, 0, 0, 0, 0, 1, 0, []) : xm_I) := rfl
theorem r_X10_slotsHeld_14 : co_X10_slotsHeld[14]? = some ((24, .iinc 2 1, 0, 0, 0, 0, 1, 0, []) : xm_I) := rfl
theorem r_X10_slotsHeld_15 : co_X10_slotsHeld[15]? = some ((27, .goto (-23), 0, 0, 4, 0, 0, 0, []) : xm_I) := rfl
theorem r_X10_slotsHeld_16 : co_X10_slotsHeld[16]? = some ((30, .iload_n 1, 0, 0, 0, 0, 0, 0, []) : xm_I) := rfl
theorem r_X10_slotsHeld_17 : co_X10_slotsHeld[17]? = some ((31, .ireturn, 0, 0, 0, 0, 0, 0, []) : xm_I) := rfl
theorem p_X10_slotsHeld_0_0 {X : xm_X} {P : List xm_M} {d : Nat} {h : xm_H} {l0 : Nat} {ro : Option Value} {ho : xm_H}  (K : xm_E X P d co_X10_slotsHeld 4 [some (.ref l0), some (.int (0 : Int32)), some (.int (0 : Int32))] [] h ro ho) : xm_E X P d co_X10_slotsHeld 0 [some (.ref l0), none, none] [] h ro ho := by
  refine xm_E_s r_X10_slotsHeld_0 rfl rfl ?_
  refine xm_E_s (ls1 := [some (.ref l0), some (.int (0 : Int32)), none]) r_X10_slotsHeld_1 rfl rfl ?_
  refine xm_E_s r_X10_slotsHeld_2 rfl rfl ?_
  refine xm_E_s (ls1 := [some (.ref l0), some (.int (0 : Int32)), some (.int (0 : Int32))]) r_X10_slotsHeld_3 rfl rfl ?_
  exact K
theorem p_X10_slotsHeld_4_0 {X : xm_X} {P : List xm_M} {d : Nat} {h : xm_H} {l0 : Nat} {l1 : Int32} {l2 : Int32} (q0 : (4 : Int32) ≤ l2) : xm_E X P d co_X10_slotsHeld 4 [some (.ref l0), some (.int l1), some (.int l2)] [] h (some (.int l1)) h := by
  refine xm_E_s r_X10_slotsHeld_4 rfl rfl ?_
  refine xm_E_s r_X10_slotsHeld_5 rfl rfl ?_
  refine xm_E_s r_X10_slotsHeld_6 rfl rfl ?_
  refine xm_E_t q0 ?_
  refine xm_E_s r_X10_slotsHeld_16 rfl rfl ?_
  exact xm_E_iret r_X10_slotsHeld_17 rfl rfl
theorem p_X10_slotsHeld_4_1 {X : xm_X} {P : List xm_M} {d : Nat} {h : xm_H} {l0 : Nat} {l1 : Int32} {l2 : Int32} {v0 : Nat} {n1 : Nat} {b1 : Nat} {v2 : Nat} {ro : Option Value} {ho : xm_H} (q0 : ¬ ((4 : Int32) ≤ l2)) (q1 : X.1[l0]? = some (.inr 9)) (q2 : h.2.2 l0 4 = some v0) (q3 : X.1[v0]? = some (.inl (b1, n1))) (q4 : ¬ (l2 < 0 ∨ n1 ≤ l2.toNatClampNeg)) (q5 : b1 = 4 ∨ b1 = 5) (q6 : h.2.2 v0 l2.toNatClampNeg = some v2) (q7 : X.1[v2]? = some (.inr 2)) (q8 : h.1 v2 1 = (0 : Int32)) (K : xm_E X P d co_X10_slotsHeld 4 [some (.ref l0), some (.int l1), some (.int (l2 + (1 : Int32)))] [] h ro ho) : xm_E X P d co_X10_slotsHeld 4 [some (.ref l0), some (.int l1), some (.int l2)] [] h ro ho := by
  refine xm_E_s r_X10_slotsHeld_4 rfl rfl ?_
  refine xm_E_s r_X10_slotsHeld_5 rfl rfl ?_
  refine xm_E_s r_X10_slotsHeld_6 rfl rfl ?_
  refine xm_E_f q0 ?_
  refine xm_E_s r_X10_slotsHeld_7 rfl rfl ?_
  refine xm_E_s r_X10_slotsHeld_8 rfl (xm_T_gr rfl q1 rfl rfl q2) ?_
  refine xm_E_s r_X10_slotsHeld_9 rfl rfl ?_
  refine xm_E_s r_X10_slotsHeld_10 rfl (xm_T_aald rfl q3 q5 q4 q6) ?_
  refine xm_E_s r_X10_slotsHeld_11 rfl (xm_T_gi rfl q7 rfl (Or.inr rfl)) ?_
  refine xm_E_s r_X10_slotsHeld_12 rfl rfl ?_
  refine xm_E_t q8 ?_
  refine xm_E_s (ls1 := [some (.ref l0), some (.int l1), some (.int (l2 + (1 : Int32)))]) r_X10_slotsHeld_14 rfl rfl ?_
  refine xm_E_s r_X10_slotsHeld_15 rfl rfl ?_
  exact K
theorem p_X10_slotsHeld_4_2 {X : xm_X} {P : List xm_M} {d : Nat} {h : xm_H} {l0 : Nat} {l1 : Int32} {l2 : Int32} {v0 : Nat} {n1 : Nat} {b1 : Nat} {v2 : Nat} {ro : Option Value} {ho : xm_H} (q0 : ¬ ((4 : Int32) ≤ l2)) (q1 : X.1[l0]? = some (.inr 9)) (q2 : h.2.2 l0 4 = some v0) (q3 : X.1[v0]? = some (.inl (b1, n1))) (q4 : ¬ (l2 < 0 ∨ n1 ≤ l2.toNatClampNeg)) (q5 : b1 = 4 ∨ b1 = 5) (q6 : h.2.2 v0 l2.toNatClampNeg = some v2) (q7 : X.1[v2]? = some (.inr 2)) (q8 : ¬ (h.1 v2 1 = (0 : Int32))) (K : xm_E X P d co_X10_slotsHeld 4 [some (.ref l0), some (.int (l1 + (1 : Int32))), some (.int (l2 + (1 : Int32)))] [] h ro ho) : xm_E X P d co_X10_slotsHeld 4 [some (.ref l0), some (.int l1), some (.int l2)] [] h ro ho := by
  refine xm_E_s r_X10_slotsHeld_4 rfl rfl ?_
  refine xm_E_s r_X10_slotsHeld_5 rfl rfl ?_
  refine xm_E_s r_X10_slotsHeld_6 rfl rfl ?_
  refine xm_E_f q0 ?_
  refine xm_E_s r_X10_slotsHeld_7 rfl rfl ?_
  refine xm_E_s r_X10_slotsHeld_8 rfl (xm_T_gr rfl q1 rfl rfl q2) ?_
  refine xm_E_s r_X10_slotsHeld_9 rfl rfl ?_
  refine xm_E_s r_X10_slotsHeld_10 rfl (xm_T_aald rfl q3 q5 q4 q6) ?_
  refine xm_E_s r_X10_slotsHeld_11 rfl (xm_T_gi rfl q7 rfl (Or.inr rfl)) ?_
  refine xm_E_s r_X10_slotsHeld_12 rfl rfl ?_
  refine xm_E_f q8 ?_
  refine xm_E_s (ls1 := [some (.ref l0), some (.int (l1 + (1 : Int32))), some (.int l2)]) r_X10_slotsHeld_13 rfl rfl ?_
  refine xm_E_s (ls1 := [some (.ref l0), some (.int (l1 + (1 : Int32))), some (.int (l2 + (1 : Int32)))]) r_X10_slotsHeld_14 rfl rfl ?_
  refine xm_E_s r_X10_slotsHeld_15 rfl rfl ?_
  exact K
theorem r_X10_image_0 : co_X10_image[0]? = some ((0, .iload_n 1, 0, 0, 0, 0, 0, 0, []) : xm_I) := rfl
theorem r_X10_image_1 : co_X10_image[1]? = some ((1, .invokestatic 368, 1314, 176, 1, 0, 0, 0, []) : xm_I) := rfl
theorem r_X10_image_2 : co_X10_image[2]? = some ((4, .ifCond .ne 6, 0, 0, 5, 0, 0, 0, []) : xm_I) := rfl
theorem r_X10_image_3 : co_X10_image[3]? = some ((7, .bipush (-2), 0, 0, 0, 0, (-2), 0, []) : xm_I) := rfl
theorem r_X10_image_4 : co_X10_image[4]? = some ((9, .ireturn, 0, 0, 0, 0, 0, 0, []) : xm_I) := rfl
theorem r_X10_image_5 : co_X10_image[5]? = some ((10, .aload_n 0, 0, 0, 0, 0, 0, 0, []) : xm_I) := rfl
theorem r_X10_image_6 : co_X10_image[6]? = some ((11, .getfield 30, 484, 9, 3, 2, 0, 0, []) : xm_I) := rfl
theorem r_X10_image_7 : co_X10_image[7]? = some ((14, .iload_n 1, 0, 0, 0, 0, 0, 0, []) : xm_I) := rfl
theorem r_X10_image_8 : co_X10_image[8]? = some ((15, .aaload, 0, 0, 0, 0, 0, 0, []) : xm_I) := rfl
theorem r_X10_image_9 : co_X10_image[9]? = some ((16, .aload_n 0, 0, 0, 0, 0, 0, 0, []) : xm_I) := rfl
theorem r_X10_image_10 : co_X10_image[10]? = some ((17, .getfield 19, 482, 9, 1, 2, 0, 0, []) : xm_I) := rfl
theorem r_X10_image_11 : co_X10_image[11]? = some ((20, .invokevirtual 371, 1317, 177, 2, 8, 0, 0, []) : xm_I) := rfl
theorem r_X10_image_12 : co_X10_image[12]? = some ((23, .aload_n 0, 0, 0, 0, 0, 0, 0, []) : xm_I) := rfl
theorem r_X10_image_13 : co_X10_image[13]? = some ((24, .getfield 30, 484, 9, 3, 2, 0, 0, []) : xm_I) := rfl
theorem r_X10_image_14 : co_X10_image[14]? = some ((27, .iload_n 1, 0, 0, 0, 0, 0, 0, []) : xm_I) := rfl
theorem r_X10_image_15 : co_X10_image[15]? = some ((28, .aaload, 0, 0, 0, 0, 0, 0, []) : xm_I) := rfl
theorem r_X10_image_16 : co_X10_image[16]? = some ((29, .iconst 1, 0, 0, 0, 0, 1, 0, []) : xm_I) := rfl
theorem r_X10_image_17 : co_X10_image[17]? = some ((30, .putfield 375, 315, 8, 5, 3, 0, 0, []) : xm_I) := rfl
theorem r_X10_image_18 : co_X10_image[18]? = some ((33, .iconst 0, 0, 0, 0, 0, 0, 0, []) : xm_I) := rfl
theorem r_X10_image_19 : co_X10_image[19]? = some ((34, .ireturn, 0, 0, 0, 0, 0, 0, []) : xm_I) := rfl
theorem p_X10_image_0_0 {X : xm_X} {P : List xm_M} {d : Nat} {h : xm_H} {l0 : Nat} {l1 : Int32} {h0 : xm_H} {r0 : Int32} (q0 : xm_V X P d 176 [.int l1] h (some (.int r0)) h0) (q1 : r0 = (0 : Int32)) : xm_E X P d co_X10_image 0 [some (.ref l0), some (.int l1)] [] h (some (.int (-2 : Int32))) h0 := by
  refine xm_E_s r_X10_image_0 rfl rfl ?_
  refine xm_E_cs [.int l1] [] r_X10_image_1 rfl rfl rfl (Nat.le_of_ble_eq_true rfl) rfl q0 ?_
  refine xm_E_s r_X10_image_2 rfl rfl ?_
  refine xm_E_t q1 ?_
  refine xm_E_s r_X10_image_3 rfl rfl ?_
  exact xm_E_iret r_X10_image_4 rfl rfl
theorem p_X10_image_0_1 {X : xm_X} {P : List xm_M} {d : Nat} {h : xm_H} {l0 : Nat} {l1 : Int32} {h0 : xm_H} {r0 : Int32} {v1 : Nat} {n2 : Nat} {b2 : Nat} {v3 : Nat} {v4 : Nat} {h5 : xm_H} {v6 : Nat} {n7 : Nat} {b7 : Nat} {v8 : Nat} (q0 : xm_V X P d 176 [.int l1] h (some (.int r0)) h0) (q1 : ¬ (r0 = (0 : Int32))) (q2 : X.1[l0]? = some (.inr 9)) (q3 : h0.2.2 l0 3 = some v1) (q4 : X.1[v1]? = some (.inl (b2, n2))) (q5 : ¬ (l1 < 0 ∨ n2 ≤ l1.toNatClampNeg)) (q6 : b2 = 4 ∨ b2 = 5) (q7 : h0.2.2 v1 l1.toNatClampNeg = some v3) (q8 : h0.2.2 l0 1 = some v4) (q9 : xm_V X P d 177 [.ref v3, .ref v4] h0 none h5) (q10 : X.1[v3]? = some (.inr 8)) (q11 : h5.2.2 l0 3 = some v6) (q12 : X.1[v6]? = some (.inl (b7, n7))) (q13 : ¬ (l1 < 0 ∨ n7 ≤ l1.toNatClampNeg)) (q14 : b7 = 4 ∨ b7 = 5) (q15 : h5.2.2 v6 l1.toNatClampNeg = some v8) (q16 : X.1[v8]? = some (.inr 8)) : xm_E X P d co_X10_image 0 [some (.ref l0), some (.int l1)] [] h (some (.int (0 : Int32))) (xm_si h5 v8 5 (1 : Int32)) := by
  refine xm_E_s r_X10_image_0 rfl rfl ?_
  refine xm_E_cs [.int l1] [] r_X10_image_1 rfl rfl rfl (Nat.le_of_ble_eq_true rfl) rfl q0 ?_
  refine xm_E_s r_X10_image_2 rfl rfl ?_
  refine xm_E_f q1 ?_
  refine xm_E_s r_X10_image_5 rfl rfl ?_
  refine xm_E_s r_X10_image_6 rfl (xm_T_gr rfl q2 rfl rfl q3) ?_
  refine xm_E_s r_X10_image_7 rfl rfl ?_
  refine xm_E_s r_X10_image_8 rfl (xm_T_aald rfl q4 q6 q5 q7) ?_
  refine xm_E_s r_X10_image_9 rfl rfl ?_
  refine xm_E_s r_X10_image_10 rfl (xm_T_gr rfl q2 rfl rfl q8) ?_
  refine xm_E_cv [.ref v3, .ref v4] [] r_X10_image_11 rfl rfl (Nat.le_of_ble_eq_true rfl) (xm_rc q10 (by decide)) rfl q9 ?_
  refine xm_E_s r_X10_image_12 rfl rfl ?_
  refine xm_E_s r_X10_image_13 rfl (xm_T_gr rfl q2 rfl rfl q11) ?_
  refine xm_E_s r_X10_image_14 rfl rfl ?_
  refine xm_E_s r_X10_image_15 rfl (xm_T_aald rfl q12 q14 q13 q15) ?_
  refine xm_E_s r_X10_image_16 rfl rfl ?_
  refine xm_E_s r_X10_image_17 rfl (xm_T_pz rfl q16 rfl rfl (by decide)) ?_
  refine xm_E_s r_X10_image_18 rfl rfl ?_
  exact xm_E_iret r_X10_image_19 rfl rfl
theorem r_X10_isImage_0 : co_X10_isImage[0]? = some ((0, .iload_n 0, 0, 0, 0, 0, 0, 0, []) : xm_I) := rfl
theorem r_X10_isImage_1 : co_X10_isImage[1]? = some ((1, .ifCond .lt 12, 0, 0, 7, 0, 0, 0, []) : xm_I) := rfl
theorem r_X10_isImage_2 : co_X10_isImage[2]? = some ((4, .iload_n 0, 0, 0, 0, 0, 0, 0, []) : xm_I) := rfl
theorem r_X10_isImage_3 : co_X10_isImage[3]? = some ((5, .iconst 3, 0, 0, 0, 0, 3, 0, []) : xm_I) := rfl
theorem r_X10_isImage_4 : co_X10_isImage[4]? = some ((6, .if_icmp .ge 7, 0, 0, 7, 0, 0, 0, []) : xm_I) := rfl
theorem r_X10_isImage_5 : co_X10_isImage[5]? = some ((9, .iconst 1, 0, 0, 0, 0, 1, 0, []) : xm_I) := rfl
theorem r_X10_isImage_6 : co_X10_isImage[6]? = some ((10, .goto 4, 0, 0, 8, 0, 0, 0, []) : xm_I) := rfl
theorem r_X10_isImage_7 : co_X10_isImage[7]? = some ((13, .iconst 0, 0, 0, 0, 0, 0, 0, []) : xm_I) := rfl
theorem r_X10_isImage_8 : co_X10_isImage[8]? = some ((14, .ireturn, 0, 0, 0, 3, 0, 0, []) : xm_I) := rfl
theorem p_X10_isImage_0_0 {X : xm_X} {P : List xm_M} {d : Nat} {h : xm_H} {l0 : Int32} (q0 : l0 < (0 : Int32)) : xm_E X P d co_X10_isImage 0 [some (.int l0)] [] h (some (.int (0 : Int32))) h := by
  refine xm_E_s r_X10_isImage_0 rfl rfl ?_
  refine xm_E_s r_X10_isImage_1 rfl rfl ?_
  refine xm_E_t q0 ?_
  refine xm_E_s r_X10_isImage_7 rfl rfl ?_
  exact xm_E_iret r_X10_isImage_8 rfl rfl
theorem p_X10_isImage_0_1 {X : xm_X} {P : List xm_M} {d : Nat} {h : xm_H} {l0 : Int32} (q0 : ¬ (l0 < (0 : Int32))) (q1 : (3 : Int32) ≤ l0) : xm_E X P d co_X10_isImage 0 [some (.int l0)] [] h (some (.int (0 : Int32))) h := by
  refine xm_E_s r_X10_isImage_0 rfl rfl ?_
  refine xm_E_s r_X10_isImage_1 rfl rfl ?_
  refine xm_E_f q0 ?_
  refine xm_E_s r_X10_isImage_2 rfl rfl ?_
  refine xm_E_s r_X10_isImage_3 rfl rfl ?_
  refine xm_E_s r_X10_isImage_4 rfl rfl ?_
  refine xm_E_t q1 ?_
  refine xm_E_s r_X10_isImage_7 rfl rfl ?_
  exact xm_E_iret r_X10_isImage_8 rfl rfl
theorem p_X10_isImage_0_2 {X : xm_X} {P : List xm_M} {d : Nat} {h : xm_H} {l0 : Int32} (q0 : ¬ (l0 < (0 : Int32))) (q1 : ¬ ((3 : Int32) ≤ l0)) : xm_E X P d co_X10_isImage 0 [some (.int l0)] [] h (some (.int (1 : Int32))) h := by
  refine xm_E_s r_X10_isImage_0 rfl rfl ?_
  refine xm_E_s r_X10_isImage_1 rfl rfl ?_
  refine xm_E_f q0 ?_
  refine xm_E_s r_X10_isImage_2 rfl rfl ?_
  refine xm_E_s r_X10_isImage_3 rfl rfl ?_
  refine xm_E_s r_X10_isImage_4 rfl rfl ?_
  refine xm_E_f q1 ?_
  refine xm_E_s r_X10_isImage_5 rfl rfl ?_
  refine xm_E_s r_X10_isImage_6 rfl rfl ?_
  exact xm_E_iret r_X10_isImage_8 rfl rfl
theorem r_X10_back_0 : co_X10_back[0]? = some ((0, .iload_n 1, 0, 0, 0, 0, 0, 0, []) : xm_I) := rfl
theorem r_X10_back_1 : co_X10_back[1]? = some ((1, .invokestatic 368, 1314, 176, 1, 0, 0, 0, []) : xm_I) := rfl
theorem r_X10_back_2 : co_X10_back[2]? = some ((4, .ifCond .ne 6, 0, 0, 5, 0, 0, 0, []) : xm_I) := rfl
theorem r_X10_back_3 : co_X10_back[3]? = some ((7, .bipush (-2), 0, 0, 0, 0, (-2), 0, []) : xm_I) := rfl
theorem r_X10_back_4 : co_X10_back[4]? = some ((9, .ireturn, 0, 0, 0, 0, 0, 0, []) : xm_I) := rfl
theorem r_X10_back_5 : co_X10_back[5]? = some ((10, .aload_n 0, 0, 0, 0, 0, 0, 0, []) : xm_I) := rfl
theorem r_X10_back_6 : co_X10_back[6]? = some ((11, .getfield 30, 484, 9, 3, 2, 0, 0, []) : xm_I) := rfl
theorem r_X10_back_7 : co_X10_back[7]? = some ((14, .iload_n 1, 0, 0, 0, 0, 0, 0, []) : xm_I) := rfl
theorem r_X10_back_8 : co_X10_back[8]? = some ((15, .aaload, 0, 0, 0, 0, 0, 0, []) : xm_I) := rfl
theorem r_X10_back_9 : co_X10_back[9]? = some ((16, .getfield 375, 315, 8, 5, 3, 0, 0, []) : xm_I) := rfl
theorem r_X10_back_10 : co_X10_back[10]? = some ((19, .ifCond .ne 6, 0, 0, 13, 0, 0, 0, []) : xm_I) := rfl
theorem r_X10_back_11 : co_X10_back[11]? = some ((22, .bipush (-6), 0, 0, 0, 0, (-6), 0, []) : xm_I) := rfl
theorem r_X10_back_12 : co_X10_back[12]? = some ((24, .ireturn, 0, 0, 0, 0, 0, 0, []) : xm_I) := rfl
theorem r_X10_back_13 : co_X10_back[13]? = some ((25, .aload_n 0, 0, 0, 0, 0, 0, 0, []) : xm_I) := rfl
theorem r_X10_back_14 : co_X10_back[14]? = some ((26, .getfield 19, 482, 9, 1, 2, 0, 0, []) : xm_I) := rfl
theorem r_X10_back_15 : co_X10_back[15]? = some ((29, .aload_n 0, 0, 0, 0, 0, 0, 0, []) : xm_I) := rfl
theorem r_X10_back_16 : co_X10_back[16]? = some ((30, .getfield 30, 484, 9, 3, 2, 0, 0, []) : xm_I) := rfl
theorem r_X10_back_17 : co_X10_back[17]? = some ((33, .iload_n 1, 0, 0, 0, 0, 0, 0, []) : xm_I) := rfl
theorem r_X10_back_18 : co_X10_back[18]? = some ((34, .aaload, 0, 0, 0, 0, 0, 0, []) : xm_I) := rfl
theorem r_X10_back_19 : co_X10_back[19]? = some ((35, .invokevirtual 371, 1317, 177, 2, 8, 0, 0, []) : xm_I) := rfl
theorem r_X10_back_20 : co_X10_back[20]? = some ((38, .iconst 0, 0, 0, 0, 0, 0, 0, []) : xm_I) := rfl
theorem r_X10_back_21 : co_X10_back[21]? = some ((39, .ireturn, 0, 0, 0, 0, 0, 0, []) : xm_I) := rfl
theorem p_X10_back_0_0 {X : xm_X} {P : List xm_M} {d : Nat} {h : xm_H} {l0 : Nat} {l1 : Int32} {h0 : xm_H} {r0 : Int32} (q0 : xm_V X P d 176 [.int l1] h (some (.int r0)) h0) (q1 : r0 = (0 : Int32)) : xm_E X P d co_X10_back 0 [some (.ref l0), some (.int l1)] [] h (some (.int (-2 : Int32))) h0 := by
  refine xm_E_s r_X10_back_0 rfl rfl ?_
  refine xm_E_cs [.int l1] [] r_X10_back_1 rfl rfl rfl (Nat.le_of_ble_eq_true rfl) rfl q0 ?_
  refine xm_E_s r_X10_back_2 rfl rfl ?_
  refine xm_E_t q1 ?_
  refine xm_E_s r_X10_back_3 rfl rfl ?_
  exact xm_E_iret r_X10_back_4 rfl rfl
theorem p_X10_back_0_1 {X : xm_X} {P : List xm_M} {d : Nat} {h : xm_H} {l0 : Nat} {l1 : Int32} {h0 : xm_H} {r0 : Int32} {v1 : Nat} {n2 : Nat} {b2 : Nat} {v3 : Nat} (q0 : xm_V X P d 176 [.int l1] h (some (.int r0)) h0) (q1 : ¬ (r0 = (0 : Int32))) (q2 : X.1[l0]? = some (.inr 9)) (q3 : h0.2.2 l0 3 = some v1) (q4 : X.1[v1]? = some (.inl (b2, n2))) (q5 : ¬ (l1 < 0 ∨ n2 ≤ l1.toNatClampNeg)) (q6 : b2 = 4 ∨ b2 = 5) (q7 : h0.2.2 v1 l1.toNatClampNeg = some v3) (q8 : X.1[v3]? = some (.inr 8)) (q9 : h0.1 v3 5 = (0 : Int32)) : xm_E X P d co_X10_back 0 [some (.ref l0), some (.int l1)] [] h (some (.int (-6 : Int32))) h0 := by
  refine xm_E_s r_X10_back_0 rfl rfl ?_
  refine xm_E_cs [.int l1] [] r_X10_back_1 rfl rfl rfl (Nat.le_of_ble_eq_true rfl) rfl q0 ?_
  refine xm_E_s r_X10_back_2 rfl rfl ?_
  refine xm_E_f q1 ?_
  refine xm_E_s r_X10_back_5 rfl rfl ?_
  refine xm_E_s r_X10_back_6 rfl (xm_T_gr rfl q2 rfl rfl q3) ?_
  refine xm_E_s r_X10_back_7 rfl rfl ?_
  refine xm_E_s r_X10_back_8 rfl (xm_T_aald rfl q4 q6 q5 q7) ?_
  refine xm_E_s r_X10_back_9 rfl (xm_T_gi rfl q8 rfl (Or.inr rfl)) ?_
  refine xm_E_s r_X10_back_10 rfl rfl ?_
  refine xm_E_t q9 ?_
  refine xm_E_s r_X10_back_11 rfl rfl ?_
  exact xm_E_iret r_X10_back_12 rfl rfl
theorem p_X10_back_0_2 {X : xm_X} {P : List xm_M} {d : Nat} {h : xm_H} {l0 : Nat} {l1 : Int32} {h0 : xm_H} {r0 : Int32} {v1 : Nat} {n2 : Nat} {b2 : Nat} {v3 : Nat} {v4 : Nat} {h5 : xm_H} (q0 : xm_V X P d 176 [.int l1] h (some (.int r0)) h0) (q1 : ¬ (r0 = (0 : Int32))) (q2 : X.1[l0]? = some (.inr 9)) (q3 : h0.2.2 l0 3 = some v1) (q4 : X.1[v1]? = some (.inl (b2, n2))) (q5 : ¬ (l1 < 0 ∨ n2 ≤ l1.toNatClampNeg)) (q6 : b2 = 4 ∨ b2 = 5) (q7 : h0.2.2 v1 l1.toNatClampNeg = some v3) (q8 : X.1[v3]? = some (.inr 8)) (q9 : ¬ (h0.1 v3 5 = (0 : Int32))) (q10 : h0.2.2 l0 1 = some v4) (q11 : xm_V X P d 177 [.ref v4, .ref v3] h0 none h5) (q12 : X.1[v4]? = some (.inr 8)) : xm_E X P d co_X10_back 0 [some (.ref l0), some (.int l1)] [] h (some (.int (0 : Int32))) h5 := by
  refine xm_E_s r_X10_back_0 rfl rfl ?_
  refine xm_E_cs [.int l1] [] r_X10_back_1 rfl rfl rfl (Nat.le_of_ble_eq_true rfl) rfl q0 ?_
  refine xm_E_s r_X10_back_2 rfl rfl ?_
  refine xm_E_f q1 ?_
  refine xm_E_s r_X10_back_5 rfl rfl ?_
  refine xm_E_s r_X10_back_6 rfl (xm_T_gr rfl q2 rfl rfl q3) ?_
  refine xm_E_s r_X10_back_7 rfl rfl ?_
  refine xm_E_s r_X10_back_8 rfl (xm_T_aald rfl q4 q6 q5 q7) ?_
  refine xm_E_s r_X10_back_9 rfl (xm_T_gi rfl q8 rfl (Or.inr rfl)) ?_
  refine xm_E_s r_X10_back_10 rfl rfl ?_
  refine xm_E_f q9 ?_
  refine xm_E_s r_X10_back_13 rfl rfl ?_
  refine xm_E_s r_X10_back_14 rfl (xm_T_gr rfl q2 rfl rfl q10) ?_
  refine xm_E_s r_X10_back_15 rfl rfl ?_
  refine xm_E_s r_X10_back_16 rfl (xm_T_gr rfl q2 rfl rfl q3) ?_
  refine xm_E_s r_X10_back_17 rfl rfl ?_
  refine xm_E_s r_X10_back_18 rfl (xm_T_aald rfl q4 q6 q5 q7) ?_
  refine xm_E_cv [.ref v4, .ref v3] [] r_X10_back_19 rfl rfl (Nat.le_of_ble_eq_true rfl) (xm_rc q12 (by decide)) rfl q11 ?_
  refine xm_E_s r_X10_back_20 rfl rfl ?_
  exact xm_E_iret r_X10_back_21 rfl rfl
theorem r_X10_row_0 : co_X10_row[0]? = some ((0, .iload_n 1, 0, 0, 0, 0, 0, 0, []) : xm_I) := rfl
theorem r_X10_row_1 : co_X10_row[1]? = some ((1, .invokestatic 310, 832, 68, 1, 0, 0, 0, []) : xm_I) := rfl
theorem r_X10_row_2 : co_X10_row[2]? = some ((4, .ifCond .eq 18, 0, 0, 11, 0, 0, 0, []) : xm_I) := rfl
theorem r_X10_row_3 : co_X10_row[3]? = some ((7, .iload_n 2, 0, 0, 0, 0, 0, 0, []) : xm_I) := rfl
theorem r_X10_row_4 : co_X10_row[4]? = some ((8, .ifCond .lt 14, 0, 0, 11, 0, 0, 0, []) : xm_I) := rfl
theorem r_X10_row_5 : co_X10_row[5]? = some ((11, .iload_n 2, 0, 0, 0, 0, 0, 0, []) : xm_I) := rfl
theorem r_X10_row_6 : co_X10_row[6]? = some ((12, .iconst 4, 0, 0, 0, 0, 4, 0, []) : xm_I) := rfl
theorem r_X10_row_7 : co_X10_row[7]? = some ((13, .if_icmp .ge 9, 0, 0, 11, 0, 0, 0, []) : xm_I) := rfl
theorem r_X10_row_8 : co_X10_row[8]? = some ((16, .iload_n 3, 0, 0, 0, 0, 0, 0, []) : xm_I) := rfl
theorem r_X10_row_9 : co_X10_row[9]? = some ((17, .bipush 60, 0, 0, 0, 0, 60, 0, []) : xm_I) := rfl
theorem r_X10_row_10 : co_X10_row[10]? = some ((19, .if_icmp .le 6, 0, 0, 13, 0, 0, 0, []) : xm_I) := rfl
theorem r_X10_row_11 : co_X10_row[11]? = some ((22, .bipush (-2), 0, 0, 0, 0, (-2), 0, []) : xm_I) := rfl
theorem r_X10_row_12 : co_X10_row[12]? = some ((24, .ireturn, 0, 0, 0, 0, 0, 0, []) : xm_I) := rfl
theorem r_X10_row_13 : co_X10_row[13]? = some ((25, .iload_n 3, 0, 0, 0, 0, 0, 0, []) : xm_I) := rfl
theorem r_X10_row_14 : co_X10_row[14]? = some ((26, .ifCond .ge 6, 0, 0, 17, 0, 0, 0, []) : xm_I) := rfl
theorem r_X10_row_15 : co_X10_row[15]? = some ((29, .bipush (-3), 0, 0, 0, 0, (-3), 0, []) : xm_I) := rfl
theorem r_X10_row_16 : co_X10_row[16]? = some ((31, .ireturn, 0, 0, 0, 0, 0, 0, []) : xm_I) := rfl
theorem r_X10_row_17 : co_X10_row[17]? = some ((32, .aload_n 0, 0, 0, 0, 0, 0, 0, []) : xm_I) := rfl
theorem r_X10_row_18 : co_X10_row[18]? = some ((33, .getfield 36, 485, 9, 4, 2, 0, 0, []) : xm_I) := rfl
theorem r_X10_row_19 : co_X10_row[19]? = some ((36, .iload_n 1, 0, 0, 0, 0, 0, 0, []) : xm_I) := rfl
theorem r_X10_row_20 : co_X10_row[20]? = some ((37, .aaload, 0, 0, 0, 0, 0, 0, []) : xm_I) := rfl
theorem r_X10_row_21 : co_X10_row[21]? = some ((38, .iload_n 2, 0, 0, 0, 0, 0, 0, []) : xm_I) := rfl
theorem r_X10_row_22 : co_X10_row[22]? = some ((39, .iload_n 3, 0, 0, 0, 0, 0, 0, []) : xm_I) := rfl
theorem r_X10_row_23 : co_X10_row[23]? = some ((40, .invokevirtual 378, 1343, 183, 3, 2, 0, 0, []) : xm_I) := rfl
theorem r_X10_row_24 : co_X10_row[24]? = some ((43, .iconst 0, 0, 0, 0, 0, 0, 0, []) : xm_I) := rfl
theorem r_X10_row_25 : co_X10_row[25]? = some ((44, .ireturn, 0, 0, 0, 0, 0, 0, []) : xm_I) := rfl
theorem p_X10_row_0_0 {X : xm_X} {P : List xm_M} {d : Nat} {h : xm_H} {l0 : Nat} {l1 : Int32} {l2 : Int32} {l3 : Int32} {h0 : xm_H} {r0 : Int32} (q0 : xm_V X P d 68 [.int l1] h (some (.int r0)) h0) (q1 : r0 = (0 : Int32)) : xm_E X P d co_X10_row 0 [some (.ref l0), some (.int l1), some (.int l2), some (.int l3)] [] h (some (.int (-2 : Int32))) h0 := by
  refine xm_E_s r_X10_row_0 rfl rfl ?_
  refine xm_E_cs [.int l1] [] r_X10_row_1 rfl rfl rfl (Nat.le_of_ble_eq_true rfl) rfl q0 ?_
  refine xm_E_s r_X10_row_2 rfl rfl ?_
  refine xm_E_t q1 ?_
  refine xm_E_s r_X10_row_11 rfl rfl ?_
  exact xm_E_iret r_X10_row_12 rfl rfl
theorem p_X10_row_0_1 {X : xm_X} {P : List xm_M} {d : Nat} {h : xm_H} {l0 : Nat} {l1 : Int32} {l2 : Int32} {l3 : Int32} {h0 : xm_H} {r0 : Int32} (q0 : xm_V X P d 68 [.int l1] h (some (.int r0)) h0) (q1 : ¬ (r0 = (0 : Int32))) (q2 : l2 < (0 : Int32)) : xm_E X P d co_X10_row 0 [some (.ref l0), some (.int l1), some (.int l2), some (.int l3)] [] h (some (.int (-2 : Int32))) h0 := by
  refine xm_E_s r_X10_row_0 rfl rfl ?_
  refine xm_E_cs [.int l1] [] r_X10_row_1 rfl rfl rfl (Nat.le_of_ble_eq_true rfl) rfl q0 ?_
  refine xm_E_s r_X10_row_2 rfl rfl ?_
  refine xm_E_f q1 ?_
  refine xm_E_s r_X10_row_3 rfl rfl ?_
  refine xm_E_s r_X10_row_4 rfl rfl ?_
  refine xm_E_t q2 ?_
  refine xm_E_s r_X10_row_11 rfl rfl ?_
  exact xm_E_iret r_X10_row_12 rfl rfl
theorem p_X10_row_0_2 {X : xm_X} {P : List xm_M} {d : Nat} {h : xm_H} {l0 : Nat} {l1 : Int32} {l2 : Int32} {l3 : Int32} {h0 : xm_H} {r0 : Int32} (q0 : xm_V X P d 68 [.int l1] h (some (.int r0)) h0) (q1 : ¬ (r0 = (0 : Int32))) (q2 : ¬ (l2 < (0 : Int32))) (q3 : (4 : Int32) ≤ l2) : xm_E X P d co_X10_row 0 [some (.ref l0), some (.int l1), some (.int l2), some (.int l3)] [] h (some (.int (-2 : Int32))) h0 := by
  refine xm_E_s r_X10_row_0 rfl rfl ?_
  refine xm_E_cs [.int l1] [] r_X10_row_1 rfl rfl rfl (Nat.le_of_ble_eq_true rfl) rfl q0 ?_
  refine xm_E_s r_X10_row_2 rfl rfl ?_
  refine xm_E_f q1 ?_
  refine xm_E_s r_X10_row_3 rfl rfl ?_
  refine xm_E_s r_X10_row_4 rfl rfl ?_
  refine xm_E_f q2 ?_
  refine xm_E_s r_X10_row_5 rfl rfl ?_
  refine xm_E_s r_X10_row_6 rfl rfl ?_
  refine xm_E_s r_X10_row_7 rfl rfl ?_
  refine xm_E_t q3 ?_
  refine xm_E_s r_X10_row_11 rfl rfl ?_
  exact xm_E_iret r_X10_row_12 rfl rfl
theorem p_X10_row_0_3 {X : xm_X} {P : List xm_M} {d : Nat} {h : xm_H} {l0 : Nat} {l1 : Int32} {l2 : Int32} {l3 : Int32} {h0 : xm_H} {r0 : Int32} {v1 : Nat} {n2 : Nat} {b2 : Nat} {v3 : Nat} {h4 : xm_H} (q0 : xm_V X P d 68 [.int l1] h (some (.int r0)) h0) (q1 : ¬ (r0 = (0 : Int32))) (q2 : ¬ (l2 < (0 : Int32))) (q3 : ¬ ((4 : Int32) ≤ l2)) (q4 : l3 ≤ (60 : Int32)) (q5 : (0 : Int32) ≤ l3) (q6 : X.1[l0]? = some (.inr 9)) (q7 : h0.2.2 l0 4 = some v1) (q8 : X.1[v1]? = some (.inl (b2, n2))) (q9 : ¬ (l1 < 0 ∨ n2 ≤ l1.toNatClampNeg)) (q10 : b2 = 4 ∨ b2 = 5) (q11 : h0.2.2 v1 l1.toNatClampNeg = some v3) (q12 : xm_V X P d 183 [.ref v3, .int l2, .int l3] h0 none h4) (q13 : X.1[v3]? = some (.inr 2)) : xm_E X P d co_X10_row 0 [some (.ref l0), some (.int l1), some (.int l2), some (.int l3)] [] h (some (.int (0 : Int32))) h4 := by
  refine xm_E_s r_X10_row_0 rfl rfl ?_
  refine xm_E_cs [.int l1] [] r_X10_row_1 rfl rfl rfl (Nat.le_of_ble_eq_true rfl) rfl q0 ?_
  refine xm_E_s r_X10_row_2 rfl rfl ?_
  refine xm_E_f q1 ?_
  refine xm_E_s r_X10_row_3 rfl rfl ?_
  refine xm_E_s r_X10_row_4 rfl rfl ?_
  refine xm_E_f q2 ?_
  refine xm_E_s r_X10_row_5 rfl rfl ?_
  refine xm_E_s r_X10_row_6 rfl rfl ?_
  refine xm_E_s r_X10_row_7 rfl rfl ?_
  refine xm_E_f q3 ?_
  refine xm_E_s r_X10_row_8 rfl rfl ?_
  refine xm_E_s r_X10_row_9 rfl rfl ?_
  refine xm_E_s r_X10_row_10 rfl rfl ?_
  refine xm_E_t q4 ?_
  refine xm_E_s r_X10_row_13 rfl rfl ?_
  refine xm_E_s r_X10_row_14 rfl rfl ?_
  refine xm_E_t q5 ?_
  refine xm_E_s r_X10_row_17 rfl rfl ?_
  refine xm_E_s r_X10_row_18 rfl (xm_T_gr rfl q6 rfl rfl q7) ?_
  refine xm_E_s r_X10_row_19 rfl rfl ?_
  refine xm_E_s r_X10_row_20 rfl (xm_T_aald rfl q8 q10 q9 q11) ?_
  refine xm_E_s r_X10_row_21 rfl rfl ?_
  refine xm_E_s r_X10_row_22 rfl rfl ?_
  refine xm_E_cv [.ref v3, .int l2, .int l3] [] r_X10_row_23 rfl rfl (Nat.le_of_ble_eq_true rfl) (xm_rc q13 (by decide)) rfl q12 ?_
  refine xm_E_s r_X10_row_24 rfl rfl ?_
  exact xm_E_iret r_X10_row_25 rfl rfl
theorem p_X10_row_0_4 {X : xm_X} {P : List xm_M} {d : Nat} {h : xm_H} {l0 : Nat} {l1 : Int32} {l2 : Int32} {l3 : Int32} {h0 : xm_H} {r0 : Int32} (q0 : xm_V X P d 68 [.int l1] h (some (.int r0)) h0) (q1 : ¬ (r0 = (0 : Int32))) (q2 : ¬ (l2 < (0 : Int32))) (q3 : ¬ ((4 : Int32) ≤ l2)) (q4 : l3 ≤ (60 : Int32)) (q5 : ¬ ((0 : Int32) ≤ l3)) : xm_E X P d co_X10_row 0 [some (.ref l0), some (.int l1), some (.int l2), some (.int l3)] [] h (some (.int (-3 : Int32))) h0 := by
  refine xm_E_s r_X10_row_0 rfl rfl ?_
  refine xm_E_cs [.int l1] [] r_X10_row_1 rfl rfl rfl (Nat.le_of_ble_eq_true rfl) rfl q0 ?_
  refine xm_E_s r_X10_row_2 rfl rfl ?_
  refine xm_E_f q1 ?_
  refine xm_E_s r_X10_row_3 rfl rfl ?_
  refine xm_E_s r_X10_row_4 rfl rfl ?_
  refine xm_E_f q2 ?_
  refine xm_E_s r_X10_row_5 rfl rfl ?_
  refine xm_E_s r_X10_row_6 rfl rfl ?_
  refine xm_E_s r_X10_row_7 rfl rfl ?_
  refine xm_E_f q3 ?_
  refine xm_E_s r_X10_row_8 rfl rfl ?_
  refine xm_E_s r_X10_row_9 rfl rfl ?_
  refine xm_E_s r_X10_row_10 rfl rfl ?_
  refine xm_E_t q4 ?_
  refine xm_E_s r_X10_row_13 rfl rfl ?_
  refine xm_E_s r_X10_row_14 rfl rfl ?_
  refine xm_E_f q5 ?_
  refine xm_E_s r_X10_row_15 rfl rfl ?_
  exact xm_E_iret r_X10_row_16 rfl rfl
theorem p_X10_row_0_5 {X : xm_X} {P : List xm_M} {d : Nat} {h : xm_H} {l0 : Nat} {l1 : Int32} {l2 : Int32} {l3 : Int32} {h0 : xm_H} {r0 : Int32} (q0 : xm_V X P d 68 [.int l1] h (some (.int r0)) h0) (q1 : ¬ (r0 = (0 : Int32))) (q2 : ¬ (l2 < (0 : Int32))) (q3 : ¬ ((4 : Int32) ≤ l2)) (q4 : ¬ (l3 ≤ (60 : Int32))) : xm_E X P d co_X10_row 0 [some (.ref l0), some (.int l1), some (.int l2), some (.int l3)] [] h (some (.int (-2 : Int32))) h0 := by
  refine xm_E_s r_X10_row_0 rfl rfl ?_
  refine xm_E_cs [.int l1] [] r_X10_row_1 rfl rfl rfl (Nat.le_of_ble_eq_true rfl) rfl q0 ?_
  refine xm_E_s r_X10_row_2 rfl rfl ?_
  refine xm_E_f q1 ?_
  refine xm_E_s r_X10_row_3 rfl rfl ?_
  refine xm_E_s r_X10_row_4 rfl rfl ?_
  refine xm_E_f q2 ?_
  refine xm_E_s r_X10_row_5 rfl rfl ?_
  refine xm_E_s r_X10_row_6 rfl rfl ?_
  refine xm_E_s r_X10_row_7 rfl rfl ?_
  refine xm_E_f q3 ?_
  refine xm_E_s r_X10_row_8 rfl rfl ?_
  refine xm_E_s r_X10_row_9 rfl rfl ?_
  refine xm_E_s r_X10_row_10 rfl rfl ?_
  refine xm_E_f q4 ?_
  refine xm_E_s r_X10_row_11 rfl rfl ?_
  exact xm_E_iret r_X10_row_12 rfl rfl
theorem r_X10_write_0 : co_X10_write[0]? = some ((0, .iload_n 1, 0, 0, 0, 0, 0, 0, []) : xm_I) := rfl
theorem r_X10_write_1 : co_X10_write[1]? = some ((1, .invokestatic 310, 832, 68, 1, 0, 0, 0, []) : xm_I) := rfl
theorem r_X10_write_2 : co_X10_write[2]? = some ((4, .ifCond .ne 6, 0, 0, 5, 0, 0, 0, []) : xm_I) := rfl
theorem r_X10_write_3 : co_X10_write[3]? = some ((7, .bipush (-2), 0, 0, 0, 0, (-2), 0, []) : xm_I) := rfl
theorem r_X10_write_4 : co_X10_write[4]? = some ((9, .ireturn, 0, 0, 0, 0, 0, 0, []) : xm_I) := rfl
theorem r_X10_write_5 : co_X10_write[5]? = some ((10, .aload_n 0, 0, 0, 0, 0, 0, 0, []) : xm_I) := rfl
theorem r_X10_write_6 : co_X10_write[6]? = some ((11, .getfield 36, 485, 9, 4, 2, 0, 0, []) : xm_I) := rfl
theorem r_X10_write_7 : co_X10_write[7]? = some ((14, .iload_n 1, 0, 0, 0, 0, 0, 0, []) : xm_I) := rfl
theorem r_X10_write_8 : co_X10_write[8]? = some ((15, .aaload, 0, 0, 0, 0, 0, 0, []) : xm_I) := rfl
theorem r_X10_write_9 : co_X10_write[9]? = some ((16, .astore 5, 0, 0, 0, 0, 0, 0, []) : xm_I) := rfl
theorem r_X10_write_10 : co_X10_write[10]? = some ((18, .aload 5, 0, 0, 0, 0, 0, 0, []) : xm_I) := rfl
theorem r_X10_write_11 : co_X10_write[11]? = some ((20, .getfield 313, 465, 2, 1, 3, 0, 0, []) : xm_I) := rfl
theorem r_X10_write_12 : co_X10_write[12]? = some ((23, .ifCond .ne 6, 0, 0, 15, 0, 0, 0, []) : xm_I) := rfl
theorem r_X10_write_13 : co_X10_write[13]? = some ((26, .bipush (-6), 0, 0, 0, 0, (-6), 0, []) : xm_I) := rfl
theorem r_X10_write_14 : co_X10_write[14]? = some ((28, .ireturn, 0, 0, 0, 0, 0, 0, []) : xm_I) := rfl
theorem r_X10_write_15 : co_X10_write[15]? = some ((29, .iload_n 2, 0, 0, 0, 0, 0, 0, []) : xm_I) := rfl
theorem r_X10_write_16 : co_X10_write[16]? = some ((30, .ifCond .lt 12, 0, 0, 21, 0, 0, 0, []) : xm_I) := rfl
theorem r_X10_write_17 : co_X10_write[17]? = some ((33, .iload_n 2, 0, 0, 0, 0, 0, 0, []) : xm_I) := rfl
theorem r_X10_write_18 : co_X10_write[18]? = some ((34, .aload 5, 0, 0, 0, 0, 0, 0, []) : xm_I) := rfl
theorem r_X10_write_19 : co_X10_write[19]? = some ((36, .getfield 382, 471, 2, 3, 0, 0, 0, []) : xm_I) := rfl
theorem r_X10_write_20 : co_X10_write[20]? = some ((39, .if_icmp .lt 6, 0, 0, 23, 0, 0, 0, []) : xm_I) := rfl
theorem r_X10_write_21 : co_X10_write[21]? = some ((42, .bipush (-7), 0, 0, 0, 0, (-7), 0, []) : xm_I) := rfl
theorem r_X10_write_22 : co_X10_write[22]? = some ((44, .ireturn, 0, 0, 0, 0, 0, 0, []) : xm_I) := rfl
theorem r_X10_write_23 : co_X10_write[23]? = some ((45, .aload 5, 0, 0, 0, 0, 0, 0, []) : xm_I) := rfl
theorem r_X10_write_24 : co_X10_write[24]? = some ((47, .iload_n 2, 0, 0, 0, 0, 0, 0, []) : xm_I) := rfl
theorem r_X10_write_25 : co_X10_write[25]? = some ((48, .lload_n 3, 0, 0, 0, 0, 0, 0, []) : xm_I) := rfl
theorem r_X10_write_26 : co_X10_write[26]? = some ((49, .invokevirtual 383, 1356, 186, 3, 2, 0, 0, []) : xm_I) := rfl
theorem r_X10_write_27 : co_X10_write[27]? = some ((52, .iconst 0, 0, 0, 0, 0, 0, 0, []) : xm_I) := rfl
theorem r_X10_write_28 : co_X10_write[28]? = some ((53, .ireturn, 0, 0, 0, 0, 0, 0, []) : xm_I) := rfl
theorem p_X10_write_0_0 {X : xm_X} {P : List xm_M} {d : Nat} {h : xm_H} {l0 : Nat} {l1 : Int32} {l2 : Int32} {l3 : Int64} {h0 : xm_H} {r0 : Int32} (q0 : xm_V X P d 68 [.int l1] h (some (.int r0)) h0) (q1 : r0 = (0 : Int32)) : xm_E X P d co_X10_write 0 [some (.ref l0), some (.int l1), some (.int l2), some (.long l3), none, none] [] h (some (.int (-2 : Int32))) h0 := by
  refine xm_E_s r_X10_write_0 rfl rfl ?_
  refine xm_E_cs [.int l1] [] r_X10_write_1 rfl rfl rfl (Nat.le_of_ble_eq_true rfl) rfl q0 ?_
  refine xm_E_s r_X10_write_2 rfl rfl ?_
  refine xm_E_t q1 ?_
  refine xm_E_s r_X10_write_3 rfl rfl ?_
  exact xm_E_iret r_X10_write_4 rfl rfl
theorem p_X10_write_0_1 {X : xm_X} {P : List xm_M} {d : Nat} {h : xm_H} {l0 : Nat} {l1 : Int32} {l2 : Int32} {l3 : Int64} {h0 : xm_H} {r0 : Int32} {v1 : Nat} {n2 : Nat} {b2 : Nat} {v3 : Nat} (q0 : xm_V X P d 68 [.int l1] h (some (.int r0)) h0) (q1 : ¬ (r0 = (0 : Int32))) (q2 : X.1[l0]? = some (.inr 9)) (q3 : h0.2.2 l0 4 = some v1) (q4 : X.1[v1]? = some (.inl (b2, n2))) (q5 : ¬ (l1 < 0 ∨ n2 ≤ l1.toNatClampNeg)) (q6 : b2 = 4 ∨ b2 = 5) (q7 : h0.2.2 v1 l1.toNatClampNeg = some v3) (q8 : X.1[v3]? = some (.inr 2)) (q9 : h0.1 v3 1 = (0 : Int32)) : xm_E X P d co_X10_write 0 [some (.ref l0), some (.int l1), some (.int l2), some (.long l3), none, none] [] h (some (.int (-6 : Int32))) h0 := by
  refine xm_E_s r_X10_write_0 rfl rfl ?_
  refine xm_E_cs [.int l1] [] r_X10_write_1 rfl rfl rfl (Nat.le_of_ble_eq_true rfl) rfl q0 ?_
  refine xm_E_s r_X10_write_2 rfl rfl ?_
  refine xm_E_f q1 ?_
  refine xm_E_s r_X10_write_5 rfl rfl ?_
  refine xm_E_s r_X10_write_6 rfl (xm_T_gr rfl q2 rfl rfl q3) ?_
  refine xm_E_s r_X10_write_7 rfl rfl ?_
  refine xm_E_s r_X10_write_8 rfl (xm_T_aald rfl q4 q6 q5 q7) ?_
  refine xm_E_s (ls1 := [some (.ref l0), some (.int l1), some (.int l2), some (.long l3), none, some (.ref v3)]) r_X10_write_9 rfl rfl ?_
  refine xm_E_s r_X10_write_10 rfl rfl ?_
  refine xm_E_s r_X10_write_11 rfl (xm_T_gi rfl q8 rfl (Or.inr rfl)) ?_
  refine xm_E_s r_X10_write_12 rfl rfl ?_
  refine xm_E_t q9 ?_
  refine xm_E_s r_X10_write_13 rfl rfl ?_
  exact xm_E_iret r_X10_write_14 rfl rfl
theorem p_X10_write_0_2 {X : xm_X} {P : List xm_M} {d : Nat} {h : xm_H} {l0 : Nat} {l1 : Int32} {l2 : Int32} {l3 : Int64} {h0 : xm_H} {r0 : Int32} {v1 : Nat} {n2 : Nat} {b2 : Nat} {v3 : Nat} (q0 : xm_V X P d 68 [.int l1] h (some (.int r0)) h0) (q1 : ¬ (r0 = (0 : Int32))) (q2 : X.1[l0]? = some (.inr 9)) (q3 : h0.2.2 l0 4 = some v1) (q4 : X.1[v1]? = some (.inl (b2, n2))) (q5 : ¬ (l1 < 0 ∨ n2 ≤ l1.toNatClampNeg)) (q6 : b2 = 4 ∨ b2 = 5) (q7 : h0.2.2 v1 l1.toNatClampNeg = some v3) (q8 : X.1[v3]? = some (.inr 2)) (q9 : ¬ (h0.1 v3 1 = (0 : Int32))) (q10 : l2 < (0 : Int32)) : xm_E X P d co_X10_write 0 [some (.ref l0), some (.int l1), some (.int l2), some (.long l3), none, none] [] h (some (.int (-7 : Int32))) h0 := by
  refine xm_E_s r_X10_write_0 rfl rfl ?_
  refine xm_E_cs [.int l1] [] r_X10_write_1 rfl rfl rfl (Nat.le_of_ble_eq_true rfl) rfl q0 ?_
  refine xm_E_s r_X10_write_2 rfl rfl ?_
  refine xm_E_f q1 ?_
  refine xm_E_s r_X10_write_5 rfl rfl ?_
  refine xm_E_s r_X10_write_6 rfl (xm_T_gr rfl q2 rfl rfl q3) ?_
  refine xm_E_s r_X10_write_7 rfl rfl ?_
  refine xm_E_s r_X10_write_8 rfl (xm_T_aald rfl q4 q6 q5 q7) ?_
  refine xm_E_s (ls1 := [some (.ref l0), some (.int l1), some (.int l2), some (.long l3), none, some (.ref v3)]) r_X10_write_9 rfl rfl ?_
  refine xm_E_s r_X10_write_10 rfl rfl ?_
  refine xm_E_s r_X10_write_11 rfl (xm_T_gi rfl q8 rfl (Or.inr rfl)) ?_
  refine xm_E_s r_X10_write_12 rfl rfl ?_
  refine xm_E_f q9 ?_
  refine xm_E_s r_X10_write_15 rfl rfl ?_
  refine xm_E_s r_X10_write_16 rfl rfl ?_
  refine xm_E_t q10 ?_
  refine xm_E_s r_X10_write_21 rfl rfl ?_
  exact xm_E_iret r_X10_write_22 rfl rfl
theorem p_X10_write_0_3 {X : xm_X} {P : List xm_M} {d : Nat} {h : xm_H} {l0 : Nat} {l1 : Int32} {l2 : Int32} {l3 : Int64} {h0 : xm_H} {r0 : Int32} {v1 : Nat} {n2 : Nat} {b2 : Nat} {v3 : Nat} {h4 : xm_H} (q0 : xm_V X P d 68 [.int l1] h (some (.int r0)) h0) (q1 : ¬ (r0 = (0 : Int32))) (q2 : X.1[l0]? = some (.inr 9)) (q3 : h0.2.2 l0 4 = some v1) (q4 : X.1[v1]? = some (.inl (b2, n2))) (q5 : ¬ (l1 < 0 ∨ n2 ≤ l1.toNatClampNeg)) (q6 : b2 = 4 ∨ b2 = 5) (q7 : h0.2.2 v1 l1.toNatClampNeg = some v3) (q8 : X.1[v3]? = some (.inr 2)) (q9 : ¬ (h0.1 v3 1 = (0 : Int32))) (q10 : ¬ (l2 < (0 : Int32))) (q11 : l2 < h0.1 v3 3) (q12 : xm_V X P d 186 [.ref v3, .int l2, .long l3] h0 none h4) : xm_E X P d co_X10_write 0 [some (.ref l0), some (.int l1), some (.int l2), some (.long l3), none, none] [] h (some (.int (0 : Int32))) h4 := by
  refine xm_E_s r_X10_write_0 rfl rfl ?_
  refine xm_E_cs [.int l1] [] r_X10_write_1 rfl rfl rfl (Nat.le_of_ble_eq_true rfl) rfl q0 ?_
  refine xm_E_s r_X10_write_2 rfl rfl ?_
  refine xm_E_f q1 ?_
  refine xm_E_s r_X10_write_5 rfl rfl ?_
  refine xm_E_s r_X10_write_6 rfl (xm_T_gr rfl q2 rfl rfl q3) ?_
  refine xm_E_s r_X10_write_7 rfl rfl ?_
  refine xm_E_s r_X10_write_8 rfl (xm_T_aald rfl q4 q6 q5 q7) ?_
  refine xm_E_s (ls1 := [some (.ref l0), some (.int l1), some (.int l2), some (.long l3), none, some (.ref v3)]) r_X10_write_9 rfl rfl ?_
  refine xm_E_s r_X10_write_10 rfl rfl ?_
  refine xm_E_s r_X10_write_11 rfl (xm_T_gi rfl q8 rfl (Or.inr rfl)) ?_
  refine xm_E_s r_X10_write_12 rfl rfl ?_
  refine xm_E_f q9 ?_
  refine xm_E_s r_X10_write_15 rfl rfl ?_
  refine xm_E_s r_X10_write_16 rfl rfl ?_
  refine xm_E_f q10 ?_
  refine xm_E_s r_X10_write_17 rfl rfl ?_
  refine xm_E_s r_X10_write_18 rfl rfl ?_
  refine xm_E_s r_X10_write_19 rfl (xm_T_gi rfl q8 rfl (Or.inl rfl)) ?_
  refine xm_E_s r_X10_write_20 rfl rfl ?_
  refine xm_E_t q11 ?_
  refine xm_E_s r_X10_write_23 rfl rfl ?_
  refine xm_E_s r_X10_write_24 rfl rfl ?_
  refine xm_E_s r_X10_write_25 rfl rfl ?_
  refine xm_E_cv [.ref v3, .int l2, .long l3] [] r_X10_write_26 rfl rfl (Nat.le_of_ble_eq_true rfl) (xm_rc q8 (by decide)) rfl q12 ?_
  refine xm_E_s r_X10_write_27 rfl rfl ?_
  exact xm_E_iret r_X10_write_28 rfl rfl
theorem p_X10_write_0_4 {X : xm_X} {P : List xm_M} {d : Nat} {h : xm_H} {l0 : Nat} {l1 : Int32} {l2 : Int32} {l3 : Int64} {h0 : xm_H} {r0 : Int32} {v1 : Nat} {n2 : Nat} {b2 : Nat} {v3 : Nat} (q0 : xm_V X P d 68 [.int l1] h (some (.int r0)) h0) (q1 : ¬ (r0 = (0 : Int32))) (q2 : X.1[l0]? = some (.inr 9)) (q3 : h0.2.2 l0 4 = some v1) (q4 : X.1[v1]? = some (.inl (b2, n2))) (q5 : ¬ (l1 < 0 ∨ n2 ≤ l1.toNatClampNeg)) (q6 : b2 = 4 ∨ b2 = 5) (q7 : h0.2.2 v1 l1.toNatClampNeg = some v3) (q8 : X.1[v3]? = some (.inr 2)) (q9 : ¬ (h0.1 v3 1 = (0 : Int32))) (q10 : ¬ (l2 < (0 : Int32))) (q11 : ¬ (l2 < h0.1 v3 3)) : xm_E X P d co_X10_write 0 [some (.ref l0), some (.int l1), some (.int l2), some (.long l3), none, none] [] h (some (.int (-7 : Int32))) h0 := by
  refine xm_E_s r_X10_write_0 rfl rfl ?_
  refine xm_E_cs [.int l1] [] r_X10_write_1 rfl rfl rfl (Nat.le_of_ble_eq_true rfl) rfl q0 ?_
  refine xm_E_s r_X10_write_2 rfl rfl ?_
  refine xm_E_f q1 ?_
  refine xm_E_s r_X10_write_5 rfl rfl ?_
  refine xm_E_s r_X10_write_6 rfl (xm_T_gr rfl q2 rfl rfl q3) ?_
  refine xm_E_s r_X10_write_7 rfl rfl ?_
  refine xm_E_s r_X10_write_8 rfl (xm_T_aald rfl q4 q6 q5 q7) ?_
  refine xm_E_s (ls1 := [some (.ref l0), some (.int l1), some (.int l2), some (.long l3), none, some (.ref v3)]) r_X10_write_9 rfl rfl ?_
  refine xm_E_s r_X10_write_10 rfl rfl ?_
  refine xm_E_s r_X10_write_11 rfl (xm_T_gi rfl q8 rfl (Or.inr rfl)) ?_
  refine xm_E_s r_X10_write_12 rfl rfl ?_
  refine xm_E_f q9 ?_
  refine xm_E_s r_X10_write_15 rfl rfl ?_
  refine xm_E_s r_X10_write_16 rfl rfl ?_
  refine xm_E_f q10 ?_
  refine xm_E_s r_X10_write_17 rfl rfl ?_
  refine xm_E_s r_X10_write_18 rfl rfl ?_
  refine xm_E_s r_X10_write_19 rfl (xm_T_gi rfl q8 rfl (Or.inl rfl)) ?_
  refine xm_E_s r_X10_write_20 rfl rfl ?_
  refine xm_E_f q11 ?_
  refine xm_E_s r_X10_write_21 rfl rfl ?_
  exact xm_E_iret r_X10_write_22 rfl rfl
theorem r_X10_paste_0 : co_X10_paste[0]? = some ((0, .iload_n 1, 0, 0, 0, 0, 0, 0, []) : xm_I) := rfl
theorem r_X10_paste_1 : co_X10_paste[1]? = some ((1, .invokestatic 310, 832, 68, 1, 0, 0, 0, []) : xm_I) := rfl
theorem r_X10_paste_2 : co_X10_paste[2]? = some ((4, .ifCond .eq 10, 0, 0, 6, 0, 0, 0, []) : xm_I) := rfl
theorem r_X10_paste_3 : co_X10_paste[3]? = some ((7, .iload_n 3, 0, 0, 0, 0, 0, 0, []) : xm_I) := rfl
theorem r_X10_paste_4 : co_X10_paste[4]? = some ((8, .invokestatic 310, 832, 68, 1, 0, 0, 0, []) : xm_I) := rfl
theorem r_X10_paste_5 : co_X10_paste[5]? = some ((11, .ifCond .ne 6, 0, 0, 8, 0, 0, 0, []) : xm_I) := rfl
theorem r_X10_paste_6 : co_X10_paste[6]? = some ((14, .bipush (-2), 0, 0, 0, 0, (-2), 0, []) : xm_I) := rfl
theorem r_X10_paste_7 : co_X10_paste[7]? = some ((16, .ireturn, 0, 0, 0, 0, 0, 0, []) : xm_I) := rfl
theorem r_X10_paste_8 : co_X10_paste[8]? = some ((17, .aload_n 0, 0, 0, 0, 0, 0, 0, []) : xm_I) := rfl
theorem r_X10_paste_9 : co_X10_paste[9]? = some ((18, .getfield 36, 485, 9, 4, 2, 0, 0, []) : xm_I) := rfl
theorem r_X10_paste_10 : co_X10_paste[10]? = some ((21, .iload_n 1, 0, 0, 0, 0, 0, 0, []) : xm_I) := rfl
theorem r_X10_paste_11 : co_X10_paste[11]? = some ((22, .aaload, 0, 0, 0, 0, 0, 0, []) : xm_I) := rfl
theorem r_X10_paste_12 : co_X10_paste[12]? = some ((23, .astore 6, 0, 0, 0, 0, 0, 0, []) : xm_I) := rfl
theorem r_X10_paste_13 : co_X10_paste[13]? = some ((25, .aload_n 0, 0, 0, 0, 0, 0, 0, []) : xm_I) := rfl
theorem r_X10_paste_14 : co_X10_paste[14]? = some ((26, .getfield 36, 485, 9, 4, 2, 0, 0, []) : xm_I) := rfl
theorem r_X10_paste_15 : co_X10_paste[15]? = some ((29, .iload_n 3, 0, 0, 0, 0, 0, 0, []) : xm_I) := rfl
theorem r_X10_paste_16 : co_X10_paste[16]? = some ((30, .aaload, 0, 0, 0, 0, 0, 0, []) : xm_I) := rfl
theorem r_X10_paste_17 : co_X10_paste[17]? = some ((31, .astore 7, 0, 0, 0, 0, 0, 0, []) : xm_I) := rfl
theorem r_X10_paste_18 : co_X10_paste[18]? = some ((33, .aload 6, 0, 0, 0, 0, 0, 0, []) : xm_I) := rfl
theorem r_X10_paste_19 : co_X10_paste[19]? = some ((35, .getfield 313, 465, 2, 1, 3, 0, 0, []) : xm_I) := rfl
theorem r_X10_paste_20 : co_X10_paste[20]? = some ((38, .ifCond .eq 11, 0, 0, 24, 0, 0, 0, []) : xm_I) := rfl
theorem r_X10_paste_21 : co_X10_paste[21]? = some ((41, .aload 7, 0, 0, 0, 0, 0, 0, []) : xm_I) := rfl
theorem r_X10_paste_22 : co_X10_paste[22]? = some ((43, .getfield 313, 465, 2, 1, 3, 0, 0, []) : xm_I) := rfl
theorem r_X10_paste_23 : co_X10_paste[23]? = some ((46, .ifCond .ne 6, 0, 0, 26, 0, 0, 0, []) : xm_I) := rfl
theorem r_X10_paste_24 : co_X10_paste[24]? = some ((49, .bipush (-6), 0, 0, 0, 0, (-6), 0, []) : xm_I) := rfl
theorem r_X10_paste_25 : co_X10_paste[25]? = some ((51, .ireturn, 0, 0, 0, 0, 0, 0, []) : xm_I) := rfl
theorem r_X10_paste_26 : co_X10_paste[26]? = some ((52, .aload 6, 0, 0, 0, 0, 0, 0, []) : xm_I) := rfl
theorem r_X10_paste_27 : co_X10_paste[27]? = some ((54, .getfield 387, 467, 2, 2, 0, 0, 0, []) : xm_I) := rfl
theorem r_X10_paste_28 : co_X10_paste[28]? = some ((57, .aload 7, 0, 0, 0, 0, 0, 0, []) : xm_I) := rfl
theorem r_X10_paste_29 : co_X10_paste[29]? = some ((59, .getfield 387, 467, 2, 2, 0, 0, 0, []) : xm_I) := rfl
theorem r_X10_paste_30 : co_X10_paste[30]? = some ((62, .if_icmp .eq 6, 0, 0, 33, 0, 0, 0, []) : xm_I) := rfl
theorem r_X10_paste_31 : co_X10_paste[31]? = some ((65, .bipush (-8), 0, 0, 0, 0, (-8), 0, []) : xm_I) := rfl
theorem r_X10_paste_32 : co_X10_paste[32]? = some ((67, .ireturn, 0, 0, 0, 0, 0, 0, []) : xm_I) := rfl
theorem r_X10_paste_33 : co_X10_paste[33]? = some ((68, .aload 6, 0, 0, 0, 0, 0, 0, []) : xm_I) := rfl
theorem r_X10_paste_34 : co_X10_paste[34]? = some ((70, .iload_n 2, 0, 0, 0, 0, 0, 0, []) : xm_I) := rfl
theorem r_X10_paste_35 : co_X10_paste[35]? = some ((71, .iload 5, 0, 0, 0, 0, 0, 0, []) : xm_I) := rfl
theorem r_X10_paste_36 : co_X10_paste[36]? = some ((73, .invokevirtual 390, 1368, 189, 3, 2, 0, 0, []) : xm_I) := rfl
theorem r_X10_paste_37 : co_X10_paste[37]? = some ((76, .ifCond .eq 15, 0, 0, 43, 0, 0, 0, []) : xm_I) := rfl
theorem r_X10_paste_38 : co_X10_paste[38]? = some ((79, .aload 7, 0, 0, 0, 0, 0, 0, []) : xm_I) := rfl
theorem r_X10_paste_39 : co_X10_paste[39]? = some ((81, .iload 4, 0, 0, 0, 0, 0, 0, []) : xm_I) := rfl
theorem r_X10_paste_40 : co_X10_paste[40]? = some ((83, .iload 5, 0, 0, 0, 0, 0, 0, []) : xm_I) := rfl
theorem r_X10_paste_41 : co_X10_paste[41]? = some ((85, .invokevirtual 390, 1368, 189, 3, 2, 0, 0, []) : xm_I) := rfl
theorem r_X10_paste_42 : co_X10_paste[42]? = some ((88, .ifCond .ne 6, 0, 0, 45, 0, 0, 0, []) : xm_I) := rfl
theorem r_X10_paste_43 : co_X10_paste[43]? = some ((91, .bipush (-7), 0, 0, 0, 0, (-7), 0, []) : xm_I) := rfl
theorem r_X10_paste_44 : co_X10_paste[44]? = some ((93, .ireturn, 0, 0, 0, 0, 0, 0, []) : xm_I) := rfl
theorem r_X10_paste_45 : co_X10_paste[45]? = some ((94, .aload 6, 0, 0, 0, 0, 0, 0, []) : xm_I) := rfl
theorem r_X10_paste_46 : co_X10_paste[46]? = some ((96, .getfield 394, 463, 2, 0, 2, 0, 0, []) : xm_I) := rfl
theorem r_X10_paste_47 : co_X10_paste[47]? = some ((99, .iload_n 2, 0, 0, 0, 0, 0, 0, []) : xm_I) := rfl
theorem r_X10_paste_48 : co_X10_paste[48]? = some ((100, .aload 7, 0, 0, 0, 0, 0, 0, []) : xm_I) := rfl
theorem r_X10_paste_49 : co_X10_paste[49]? = some ((102, .getfield 394, 463, 2, 0, 2, 0, 0, []) : xm_I) := rfl
theorem r_X10_paste_50 : co_X10_paste[50]? = some ((105, .iload 4, 0, 0, 0, 0, 0, 0, []) : xm_I) := rfl
theorem r_X10_paste_51 : co_X10_paste[51]? = some ((107, .iload 5, 0, 0, 0, 0, 0, 0, []) : xm_I) := rfl
theorem r_X10_paste_52 : co_X10_paste[52]? = some ((109, .invokestatic 398, 1372, 0, 0, 1, 0, 0, []) : xm_I) := rfl
theorem r_X10_paste_53 : co_X10_paste[53]? = some ((112, .iconst 0, 0, 0, 0, 0, 0, 0, []) : xm_I) := rfl
theorem r_X10_paste_54 : co_X10_paste[54]? = some ((113, .ireturn, 0, 0, 0, 0, 0, 0, []) : xm_I) := rfl
theorem p_X10_paste_0_0 {X : xm_X} {P : List xm_M} {d : Nat} {h : xm_H} {l0 : Nat} {l1 : Int32} {l2 : Int32} {l3 : Int32} {l4 : Int32} {l5 : Int32} {h0 : xm_H} {r0 : Int32} (q0 : xm_V X P d 68 [.int l1] h (some (.int r0)) h0) (q1 : r0 = (0 : Int32)) : xm_E X P d co_X10_paste 0 [some (.ref l0), some (.int l1), some (.int l2), some (.int l3), some (.int l4), some (.int l5), none, none] [] h (some (.int (-2 : Int32))) h0 := by
  refine xm_E_s r_X10_paste_0 rfl rfl ?_
  refine xm_E_cs [.int l1] [] r_X10_paste_1 rfl rfl rfl (Nat.le_of_ble_eq_true rfl) rfl q0 ?_
  refine xm_E_s r_X10_paste_2 rfl rfl ?_
  refine xm_E_t q1 ?_
  refine xm_E_s r_X10_paste_6 rfl rfl ?_
  exact xm_E_iret r_X10_paste_7 rfl rfl
theorem p_X10_paste_0_1 {X : xm_X} {P : List xm_M} {d : Nat} {h : xm_H} {l0 : Nat} {l1 : Int32} {l2 : Int32} {l3 : Int32} {l4 : Int32} {l5 : Int32} {h0 : xm_H} {r0 : Int32} {h1 : xm_H} {r1 : Int32} (q0 : xm_V X P d 68 [.int l1] h (some (.int r0)) h0) (q1 : ¬ (r0 = (0 : Int32))) (q2 : xm_V X P d 68 [.int l3] h0 (some (.int r1)) h1) (q3 : r1 = (0 : Int32)) : xm_E X P d co_X10_paste 0 [some (.ref l0), some (.int l1), some (.int l2), some (.int l3), some (.int l4), some (.int l5), none, none] [] h (some (.int (-2 : Int32))) h1 := by
  refine xm_E_s r_X10_paste_0 rfl rfl ?_
  refine xm_E_cs [.int l1] [] r_X10_paste_1 rfl rfl rfl (Nat.le_of_ble_eq_true rfl) rfl q0 ?_
  refine xm_E_s r_X10_paste_2 rfl rfl ?_
  refine xm_E_f q1 ?_
  refine xm_E_s r_X10_paste_3 rfl rfl ?_
  refine xm_E_cs [.int l3] [] r_X10_paste_4 rfl rfl rfl (Nat.le_of_ble_eq_true rfl) rfl q2 ?_
  refine xm_E_s r_X10_paste_5 rfl rfl ?_
  refine xm_E_t q3 ?_
  refine xm_E_s r_X10_paste_6 rfl rfl ?_
  exact xm_E_iret r_X10_paste_7 rfl rfl
theorem p_X10_paste_0_2 {X : xm_X} {P : List xm_M} {d : Nat} {h : xm_H} {l0 : Nat} {l1 : Int32} {l2 : Int32} {l3 : Int32} {l4 : Int32} {l5 : Int32} {h0 : xm_H} {r0 : Int32} {h1 : xm_H} {r1 : Int32} {v2 : Nat} {n3 : Nat} {b3 : Nat} {v4 : Nat} {v5 : Nat} (q0 : xm_V X P d 68 [.int l1] h (some (.int r0)) h0) (q1 : ¬ (r0 = (0 : Int32))) (q2 : xm_V X P d 68 [.int l3] h0 (some (.int r1)) h1) (q3 : ¬ (r1 = (0 : Int32))) (q4 : X.1[l0]? = some (.inr 9)) (q5 : h1.2.2 l0 4 = some v2) (q6 : X.1[v2]? = some (.inl (b3, n3))) (q7 : ¬ (l1 < 0 ∨ n3 ≤ l1.toNatClampNeg)) (q8 : b3 = 4 ∨ b3 = 5) (q9 : h1.2.2 v2 l1.toNatClampNeg = some v4) (q10 : ¬ (l3 < 0 ∨ n3 ≤ l3.toNatClampNeg)) (q11 : h1.2.2 v2 l3.toNatClampNeg = some v5) (q12 : X.1[v4]? = some (.inr 2)) (q13 : h1.1 v4 1 = (0 : Int32)) : xm_E X P d co_X10_paste 0 [some (.ref l0), some (.int l1), some (.int l2), some (.int l3), some (.int l4), some (.int l5), none, none] [] h (some (.int (-6 : Int32))) h1 := by
  refine xm_E_s r_X10_paste_0 rfl rfl ?_
  refine xm_E_cs [.int l1] [] r_X10_paste_1 rfl rfl rfl (Nat.le_of_ble_eq_true rfl) rfl q0 ?_
  refine xm_E_s r_X10_paste_2 rfl rfl ?_
  refine xm_E_f q1 ?_
  refine xm_E_s r_X10_paste_3 rfl rfl ?_
  refine xm_E_cs [.int l3] [] r_X10_paste_4 rfl rfl rfl (Nat.le_of_ble_eq_true rfl) rfl q2 ?_
  refine xm_E_s r_X10_paste_5 rfl rfl ?_
  refine xm_E_f q3 ?_
  refine xm_E_s r_X10_paste_8 rfl rfl ?_
  refine xm_E_s r_X10_paste_9 rfl (xm_T_gr rfl q4 rfl rfl q5) ?_
  refine xm_E_s r_X10_paste_10 rfl rfl ?_
  refine xm_E_s r_X10_paste_11 rfl (xm_T_aald rfl q6 q8 q7 q9) ?_
  refine xm_E_s (ls1 := [some (.ref l0), some (.int l1), some (.int l2), some (.int l3), some (.int l4), some (.int l5), some (.ref v4), none]) r_X10_paste_12 rfl rfl ?_
  refine xm_E_s r_X10_paste_13 rfl rfl ?_
  refine xm_E_s r_X10_paste_14 rfl (xm_T_gr rfl q4 rfl rfl q5) ?_
  refine xm_E_s r_X10_paste_15 rfl rfl ?_
  refine xm_E_s r_X10_paste_16 rfl (xm_T_aald rfl q6 q8 q10 q11) ?_
  refine xm_E_s (ls1 := [some (.ref l0), some (.int l1), some (.int l2), some (.int l3), some (.int l4), some (.int l5), some (.ref v4), some (.ref v5)]) r_X10_paste_17 rfl rfl ?_
  refine xm_E_s r_X10_paste_18 rfl rfl ?_
  refine xm_E_s r_X10_paste_19 rfl (xm_T_gi rfl q12 rfl (Or.inr rfl)) ?_
  refine xm_E_s r_X10_paste_20 rfl rfl ?_
  refine xm_E_t q13 ?_
  refine xm_E_s r_X10_paste_24 rfl rfl ?_
  exact xm_E_iret r_X10_paste_25 rfl rfl
theorem p_X10_paste_0_3 {X : xm_X} {P : List xm_M} {d : Nat} {h : xm_H} {l0 : Nat} {l1 : Int32} {l2 : Int32} {l3 : Int32} {l4 : Int32} {l5 : Int32} {h0 : xm_H} {r0 : Int32} {h1 : xm_H} {r1 : Int32} {v2 : Nat} {n3 : Nat} {b3 : Nat} {v4 : Nat} {v5 : Nat} (q0 : xm_V X P d 68 [.int l1] h (some (.int r0)) h0) (q1 : ¬ (r0 = (0 : Int32))) (q2 : xm_V X P d 68 [.int l3] h0 (some (.int r1)) h1) (q3 : ¬ (r1 = (0 : Int32))) (q4 : X.1[l0]? = some (.inr 9)) (q5 : h1.2.2 l0 4 = some v2) (q6 : X.1[v2]? = some (.inl (b3, n3))) (q7 : ¬ (l1 < 0 ∨ n3 ≤ l1.toNatClampNeg)) (q8 : b3 = 4 ∨ b3 = 5) (q9 : h1.2.2 v2 l1.toNatClampNeg = some v4) (q10 : ¬ (l3 < 0 ∨ n3 ≤ l3.toNatClampNeg)) (q11 : h1.2.2 v2 l3.toNatClampNeg = some v5) (q12 : X.1[v4]? = some (.inr 2)) (q13 : ¬ (h1.1 v4 1 = (0 : Int32))) (q14 : X.1[v5]? = some (.inr 2)) (q15 : h1.1 v5 1 = (0 : Int32)) : xm_E X P d co_X10_paste 0 [some (.ref l0), some (.int l1), some (.int l2), some (.int l3), some (.int l4), some (.int l5), none, none] [] h (some (.int (-6 : Int32))) h1 := by
  refine xm_E_s r_X10_paste_0 rfl rfl ?_
  refine xm_E_cs [.int l1] [] r_X10_paste_1 rfl rfl rfl (Nat.le_of_ble_eq_true rfl) rfl q0 ?_
  refine xm_E_s r_X10_paste_2 rfl rfl ?_
  refine xm_E_f q1 ?_
  refine xm_E_s r_X10_paste_3 rfl rfl ?_
  refine xm_E_cs [.int l3] [] r_X10_paste_4 rfl rfl rfl (Nat.le_of_ble_eq_true rfl) rfl q2 ?_
  refine xm_E_s r_X10_paste_5 rfl rfl ?_
  refine xm_E_f q3 ?_
  refine xm_E_s r_X10_paste_8 rfl rfl ?_
  refine xm_E_s r_X10_paste_9 rfl (xm_T_gr rfl q4 rfl rfl q5) ?_
  refine xm_E_s r_X10_paste_10 rfl rfl ?_
  refine xm_E_s r_X10_paste_11 rfl (xm_T_aald rfl q6 q8 q7 q9) ?_
  refine xm_E_s (ls1 := [some (.ref l0), some (.int l1), some (.int l2), some (.int l3), some (.int l4), some (.int l5), some (.ref v4), none]) r_X10_paste_12 rfl rfl ?_
  refine xm_E_s r_X10_paste_13 rfl rfl ?_
  refine xm_E_s r_X10_paste_14 rfl (xm_T_gr rfl q4 rfl rfl q5) ?_
  refine xm_E_s r_X10_paste_15 rfl rfl ?_
  refine xm_E_s r_X10_paste_16 rfl (xm_T_aald rfl q6 q8 q10 q11) ?_
  refine xm_E_s (ls1 := [some (.ref l0), some (.int l1), some (.int l2), some (.int l3), some (.int l4), some (.int l5), some (.ref v4), some (.ref v5)]) r_X10_paste_17 rfl rfl ?_
  refine xm_E_s r_X10_paste_18 rfl rfl ?_
  refine xm_E_s r_X10_paste_19 rfl (xm_T_gi rfl q12 rfl (Or.inr rfl)) ?_
  refine xm_E_s r_X10_paste_20 rfl rfl ?_
  refine xm_E_f q13 ?_
  refine xm_E_s r_X10_paste_21 rfl rfl ?_
  refine xm_E_s r_X10_paste_22 rfl (xm_T_gi rfl q14 rfl (Or.inr rfl)) ?_
  refine xm_E_s r_X10_paste_23 rfl rfl ?_
  refine xm_E_t q15 ?_
  refine xm_E_s r_X10_paste_24 rfl rfl ?_
  exact xm_E_iret r_X10_paste_25 rfl rfl
theorem p_X10_paste_0_4 {X : xm_X} {P : List xm_M} {d : Nat} {h : xm_H} {l0 : Nat} {l1 : Int32} {l2 : Int32} {l3 : Int32} {l4 : Int32} {l5 : Int32} {h0 : xm_H} {r0 : Int32} {h1 : xm_H} {r1 : Int32} {v2 : Nat} {n3 : Nat} {b3 : Nat} {v4 : Nat} {v5 : Nat} {h6 : xm_H} {r6 : Int32} (q0 : xm_V X P d 68 [.int l1] h (some (.int r0)) h0) (q1 : ¬ (r0 = (0 : Int32))) (q2 : xm_V X P d 68 [.int l3] h0 (some (.int r1)) h1) (q3 : ¬ (r1 = (0 : Int32))) (q4 : X.1[l0]? = some (.inr 9)) (q5 : h1.2.2 l0 4 = some v2) (q6 : X.1[v2]? = some (.inl (b3, n3))) (q7 : ¬ (l1 < 0 ∨ n3 ≤ l1.toNatClampNeg)) (q8 : b3 = 4 ∨ b3 = 5) (q9 : h1.2.2 v2 l1.toNatClampNeg = some v4) (q10 : ¬ (l3 < 0 ∨ n3 ≤ l3.toNatClampNeg)) (q11 : h1.2.2 v2 l3.toNatClampNeg = some v5) (q12 : X.1[v4]? = some (.inr 2)) (q13 : ¬ (h1.1 v4 1 = (0 : Int32))) (q14 : X.1[v5]? = some (.inr 2)) (q15 : ¬ (h1.1 v5 1 = (0 : Int32))) (q16 : h1.1 v4 2 = h1.1 v5 2) (q17 : xm_V X P d 189 [.ref v4, .int l2, .int l5] h1 (some (.int r6)) h6) (q18 : r6 = (0 : Int32)) : xm_E X P d co_X10_paste 0 [some (.ref l0), some (.int l1), some (.int l2), some (.int l3), some (.int l4), some (.int l5), none, none] [] h (some (.int (-7 : Int32))) h6 := by
  refine xm_E_s r_X10_paste_0 rfl rfl ?_
  refine xm_E_cs [.int l1] [] r_X10_paste_1 rfl rfl rfl (Nat.le_of_ble_eq_true rfl) rfl q0 ?_
  refine xm_E_s r_X10_paste_2 rfl rfl ?_
  refine xm_E_f q1 ?_
  refine xm_E_s r_X10_paste_3 rfl rfl ?_
  refine xm_E_cs [.int l3] [] r_X10_paste_4 rfl rfl rfl (Nat.le_of_ble_eq_true rfl) rfl q2 ?_
  refine xm_E_s r_X10_paste_5 rfl rfl ?_
  refine xm_E_f q3 ?_
  refine xm_E_s r_X10_paste_8 rfl rfl ?_
  refine xm_E_s r_X10_paste_9 rfl (xm_T_gr rfl q4 rfl rfl q5) ?_
  refine xm_E_s r_X10_paste_10 rfl rfl ?_
  refine xm_E_s r_X10_paste_11 rfl (xm_T_aald rfl q6 q8 q7 q9) ?_
  refine xm_E_s (ls1 := [some (.ref l0), some (.int l1), some (.int l2), some (.int l3), some (.int l4), some (.int l5), some (.ref v4), none]) r_X10_paste_12 rfl rfl ?_
  refine xm_E_s r_X10_paste_13 rfl rfl ?_
  refine xm_E_s r_X10_paste_14 rfl (xm_T_gr rfl q4 rfl rfl q5) ?_
  refine xm_E_s r_X10_paste_15 rfl rfl ?_
  refine xm_E_s r_X10_paste_16 rfl (xm_T_aald rfl q6 q8 q10 q11) ?_
  refine xm_E_s (ls1 := [some (.ref l0), some (.int l1), some (.int l2), some (.int l3), some (.int l4), some (.int l5), some (.ref v4), some (.ref v5)]) r_X10_paste_17 rfl rfl ?_
  refine xm_E_s r_X10_paste_18 rfl rfl ?_
  refine xm_E_s r_X10_paste_19 rfl (xm_T_gi rfl q12 rfl (Or.inr rfl)) ?_
  refine xm_E_s r_X10_paste_20 rfl rfl ?_
  refine xm_E_f q13 ?_
  refine xm_E_s r_X10_paste_21 rfl rfl ?_
  refine xm_E_s r_X10_paste_22 rfl (xm_T_gi rfl q14 rfl (Or.inr rfl)) ?_
  refine xm_E_s r_X10_paste_23 rfl rfl ?_
  refine xm_E_f q15 ?_
  refine xm_E_s r_X10_paste_26 rfl rfl ?_
  refine xm_E_s r_X10_paste_27 rfl (xm_T_gi rfl q12 rfl (Or.inl rfl)) ?_
  refine xm_E_s r_X10_paste_28 rfl rfl ?_
  refine xm_E_s r_X10_paste_29 rfl (xm_T_gi rfl q14 rfl (Or.inl rfl)) ?_
  refine xm_E_s r_X10_paste_30 rfl rfl ?_
  refine xm_E_t q16 ?_
  refine xm_E_s r_X10_paste_33 rfl rfl ?_
  refine xm_E_s r_X10_paste_34 rfl rfl ?_
  refine xm_E_s r_X10_paste_35 rfl rfl ?_
  refine xm_E_cv [.ref v4, .int l2, .int l5] [] r_X10_paste_36 rfl rfl (Nat.le_of_ble_eq_true rfl) (xm_rc q12 (by decide)) rfl q17 ?_
  refine xm_E_s r_X10_paste_37 rfl rfl ?_
  refine xm_E_t q18 ?_
  refine xm_E_s r_X10_paste_43 rfl rfl ?_
  exact xm_E_iret r_X10_paste_44 rfl rfl
theorem p_X10_paste_0_5 {X : xm_X} {P : List xm_M} {d : Nat} {h : xm_H} {l0 : Nat} {l1 : Int32} {l2 : Int32} {l3 : Int32} {l4 : Int32} {l5 : Int32} {h0 : xm_H} {r0 : Int32} {h1 : xm_H} {r1 : Int32} {v2 : Nat} {n3 : Nat} {b3 : Nat} {v4 : Nat} {v5 : Nat} {h6 : xm_H} {r6 : Int32} {h7 : xm_H} {r7 : Int32} (q0 : xm_V X P d 68 [.int l1] h (some (.int r0)) h0) (q1 : ¬ (r0 = (0 : Int32))) (q2 : xm_V X P d 68 [.int l3] h0 (some (.int r1)) h1) (q3 : ¬ (r1 = (0 : Int32))) (q4 : X.1[l0]? = some (.inr 9)) (q5 : h1.2.2 l0 4 = some v2) (q6 : X.1[v2]? = some (.inl (b3, n3))) (q7 : ¬ (l1 < 0 ∨ n3 ≤ l1.toNatClampNeg)) (q8 : b3 = 4 ∨ b3 = 5) (q9 : h1.2.2 v2 l1.toNatClampNeg = some v4) (q10 : ¬ (l3 < 0 ∨ n3 ≤ l3.toNatClampNeg)) (q11 : h1.2.2 v2 l3.toNatClampNeg = some v5) (q12 : X.1[v4]? = some (.inr 2)) (q13 : ¬ (h1.1 v4 1 = (0 : Int32))) (q14 : X.1[v5]? = some (.inr 2)) (q15 : ¬ (h1.1 v5 1 = (0 : Int32))) (q16 : h1.1 v4 2 = h1.1 v5 2) (q17 : xm_V X P d 189 [.ref v4, .int l2, .int l5] h1 (some (.int r6)) h6) (q18 : ¬ (r6 = (0 : Int32))) (q19 : xm_V X P d 189 [.ref v5, .int l4, .int l5] h6 (some (.int r7)) h7) (q20 : r7 = (0 : Int32)) : xm_E X P d co_X10_paste 0 [some (.ref l0), some (.int l1), some (.int l2), some (.int l3), some (.int l4), some (.int l5), none, none] [] h (some (.int (-7 : Int32))) h7 := by
  refine xm_E_s r_X10_paste_0 rfl rfl ?_
  refine xm_E_cs [.int l1] [] r_X10_paste_1 rfl rfl rfl (Nat.le_of_ble_eq_true rfl) rfl q0 ?_
  refine xm_E_s r_X10_paste_2 rfl rfl ?_
  refine xm_E_f q1 ?_
  refine xm_E_s r_X10_paste_3 rfl rfl ?_
  refine xm_E_cs [.int l3] [] r_X10_paste_4 rfl rfl rfl (Nat.le_of_ble_eq_true rfl) rfl q2 ?_
  refine xm_E_s r_X10_paste_5 rfl rfl ?_
  refine xm_E_f q3 ?_
  refine xm_E_s r_X10_paste_8 rfl rfl ?_
  refine xm_E_s r_X10_paste_9 rfl (xm_T_gr rfl q4 rfl rfl q5) ?_
  refine xm_E_s r_X10_paste_10 rfl rfl ?_
  refine xm_E_s r_X10_paste_11 rfl (xm_T_aald rfl q6 q8 q7 q9) ?_
  refine xm_E_s (ls1 := [some (.ref l0), some (.int l1), some (.int l2), some (.int l3), some (.int l4), some (.int l5), some (.ref v4), none]) r_X10_paste_12 rfl rfl ?_
  refine xm_E_s r_X10_paste_13 rfl rfl ?_
  refine xm_E_s r_X10_paste_14 rfl (xm_T_gr rfl q4 rfl rfl q5) ?_
  refine xm_E_s r_X10_paste_15 rfl rfl ?_
  refine xm_E_s r_X10_paste_16 rfl (xm_T_aald rfl q6 q8 q10 q11) ?_
  refine xm_E_s (ls1 := [some (.ref l0), some (.int l1), some (.int l2), some (.int l3), some (.int l4), some (.int l5), some (.ref v4), some (.ref v5)]) r_X10_paste_17 rfl rfl ?_
  refine xm_E_s r_X10_paste_18 rfl rfl ?_
  refine xm_E_s r_X10_paste_19 rfl (xm_T_gi rfl q12 rfl (Or.inr rfl)) ?_
  refine xm_E_s r_X10_paste_20 rfl rfl ?_
  refine xm_E_f q13 ?_
  refine xm_E_s r_X10_paste_21 rfl rfl ?_
  refine xm_E_s r_X10_paste_22 rfl (xm_T_gi rfl q14 rfl (Or.inr rfl)) ?_
  refine xm_E_s r_X10_paste_23 rfl rfl ?_
  refine xm_E_f q15 ?_
  refine xm_E_s r_X10_paste_26 rfl rfl ?_
  refine xm_E_s r_X10_paste_27 rfl (xm_T_gi rfl q12 rfl (Or.inl rfl)) ?_
  refine xm_E_s r_X10_paste_28 rfl rfl ?_
  refine xm_E_s r_X10_paste_29 rfl (xm_T_gi rfl q14 rfl (Or.inl rfl)) ?_
  refine xm_E_s r_X10_paste_30 rfl rfl ?_
  refine xm_E_t q16 ?_
  refine xm_E_s r_X10_paste_33 rfl rfl ?_
  refine xm_E_s r_X10_paste_34 rfl rfl ?_
  refine xm_E_s r_X10_paste_35 rfl rfl ?_
  refine xm_E_cv [.ref v4, .int l2, .int l5] [] r_X10_paste_36 rfl rfl (Nat.le_of_ble_eq_true rfl) (xm_rc q12 (by decide)) rfl q17 ?_
  refine xm_E_s r_X10_paste_37 rfl rfl ?_
  refine xm_E_f q18 ?_
  refine xm_E_s r_X10_paste_38 rfl rfl ?_
  refine xm_E_s r_X10_paste_39 rfl rfl ?_
  refine xm_E_s r_X10_paste_40 rfl rfl ?_
  refine xm_E_cv [.ref v5, .int l4, .int l5] [] r_X10_paste_41 rfl rfl (Nat.le_of_ble_eq_true rfl) (xm_rc q14 (by decide)) rfl q19 ?_
  refine xm_E_s r_X10_paste_42 rfl rfl ?_
  refine xm_E_t q20 ?_
  refine xm_E_s r_X10_paste_43 rfl rfl ?_
  exact xm_E_iret r_X10_paste_44 rfl rfl
theorem p_X10_paste_0_6 {X : xm_X} {P : List xm_M} {d : Nat} {h : xm_H} {l0 : Nat} {l1 : Int32} {l2 : Int32} {l3 : Int32} {l4 : Int32} {l5 : Int32} {h0 : xm_H} {r0 : Int32} {h1 : xm_H} {r1 : Int32} {v2 : Nat} {n3 : Nat} {b3 : Nat} {v4 : Nat} {v5 : Nat} {h6 : xm_H} {r6 : Int32} {h7 : xm_H} {r7 : Int32} {v8 : Nat} {v9 : Nat} {n10 : Nat} {n11 : Nat} (q0 : xm_V X P d 68 [.int l1] h (some (.int r0)) h0) (q1 : ¬ (r0 = (0 : Int32))) (q2 : xm_V X P d 68 [.int l3] h0 (some (.int r1)) h1) (q3 : ¬ (r1 = (0 : Int32))) (q4 : X.1[l0]? = some (.inr 9)) (q5 : h1.2.2 l0 4 = some v2) (q6 : X.1[v2]? = some (.inl (b3, n3))) (q7 : ¬ (l1 < 0 ∨ n3 ≤ l1.toNatClampNeg)) (q8 : b3 = 4 ∨ b3 = 5) (q9 : h1.2.2 v2 l1.toNatClampNeg = some v4) (q10 : ¬ (l3 < 0 ∨ n3 ≤ l3.toNatClampNeg)) (q11 : h1.2.2 v2 l3.toNatClampNeg = some v5) (q12 : X.1[v4]? = some (.inr 2)) (q13 : ¬ (h1.1 v4 1 = (0 : Int32))) (q14 : X.1[v5]? = some (.inr 2)) (q15 : ¬ (h1.1 v5 1 = (0 : Int32))) (q16 : h1.1 v4 2 = h1.1 v5 2) (q17 : xm_V X P d 189 [.ref v4, .int l2, .int l5] h1 (some (.int r6)) h6) (q18 : ¬ (r6 = (0 : Int32))) (q19 : xm_V X P d 189 [.ref v5, .int l4, .int l5] h6 (some (.int r7)) h7) (q20 : ¬ (r7 = (0 : Int32))) (q21 : h7.2.2 v4 0 = some v8) (q22 : h7.2.2 v5 0 = some v9) (q23 : X.1[v8]? = some (.inl (3, n10))) (q24 : X.1[v9]? = some (.inl (3, n11))) (q25 : ¬ (l2 < 0 ∨ l4 < 0 ∨ l5 < 0 ∨ n10 < l2.toNatClampNeg + l5.toNatClampNeg ∨ n11 < l4.toNatClampNeg + l5.toNatClampNeg ∨ 8 < (([] : List Value).map fun v => v.category).sum)) : xm_E X P d co_X10_paste 0 [some (.ref l0), some (.int l1), some (.int l2), some (.int l3), some (.int l4), some (.int l5), none, none] [] h (some (.int (0 : Int32))) (xm_cl_cpy h7 v8 v9 l2.toNatClampNeg l4.toNatClampNeg l5.toNatClampNeg) := by
  refine xm_E_s r_X10_paste_0 rfl rfl ?_
  refine xm_E_cs [.int l1] [] r_X10_paste_1 rfl rfl rfl (Nat.le_of_ble_eq_true rfl) rfl q0 ?_
  refine xm_E_s r_X10_paste_2 rfl rfl ?_
  refine xm_E_f q1 ?_
  refine xm_E_s r_X10_paste_3 rfl rfl ?_
  refine xm_E_cs [.int l3] [] r_X10_paste_4 rfl rfl rfl (Nat.le_of_ble_eq_true rfl) rfl q2 ?_
  refine xm_E_s r_X10_paste_5 rfl rfl ?_
  refine xm_E_f q3 ?_
  refine xm_E_s r_X10_paste_8 rfl rfl ?_
  refine xm_E_s r_X10_paste_9 rfl (xm_T_gr rfl q4 rfl rfl q5) ?_
  refine xm_E_s r_X10_paste_10 rfl rfl ?_
  refine xm_E_s r_X10_paste_11 rfl (xm_T_aald rfl q6 q8 q7 q9) ?_
  refine xm_E_s (ls1 := [some (.ref l0), some (.int l1), some (.int l2), some (.int l3), some (.int l4), some (.int l5), some (.ref v4), none]) r_X10_paste_12 rfl rfl ?_
  refine xm_E_s r_X10_paste_13 rfl rfl ?_
  refine xm_E_s r_X10_paste_14 rfl (xm_T_gr rfl q4 rfl rfl q5) ?_
  refine xm_E_s r_X10_paste_15 rfl rfl ?_
  refine xm_E_s r_X10_paste_16 rfl (xm_T_aald rfl q6 q8 q10 q11) ?_
  refine xm_E_s (ls1 := [some (.ref l0), some (.int l1), some (.int l2), some (.int l3), some (.int l4), some (.int l5), some (.ref v4), some (.ref v5)]) r_X10_paste_17 rfl rfl ?_
  refine xm_E_s r_X10_paste_18 rfl rfl ?_
  refine xm_E_s r_X10_paste_19 rfl (xm_T_gi rfl q12 rfl (Or.inr rfl)) ?_
  refine xm_E_s r_X10_paste_20 rfl rfl ?_
  refine xm_E_f q13 ?_
  refine xm_E_s r_X10_paste_21 rfl rfl ?_
  refine xm_E_s r_X10_paste_22 rfl (xm_T_gi rfl q14 rfl (Or.inr rfl)) ?_
  refine xm_E_s r_X10_paste_23 rfl rfl ?_
  refine xm_E_f q15 ?_
  refine xm_E_s r_X10_paste_26 rfl rfl ?_
  refine xm_E_s r_X10_paste_27 rfl (xm_T_gi rfl q12 rfl (Or.inl rfl)) ?_
  refine xm_E_s r_X10_paste_28 rfl rfl ?_
  refine xm_E_s r_X10_paste_29 rfl (xm_T_gi rfl q14 rfl (Or.inl rfl)) ?_
  refine xm_E_s r_X10_paste_30 rfl rfl ?_
  refine xm_E_t q16 ?_
  refine xm_E_s r_X10_paste_33 rfl rfl ?_
  refine xm_E_s r_X10_paste_34 rfl rfl ?_
  refine xm_E_s r_X10_paste_35 rfl rfl ?_
  refine xm_E_cv [.ref v4, .int l2, .int l5] [] r_X10_paste_36 rfl rfl (Nat.le_of_ble_eq_true rfl) (xm_rc q12 (by decide)) rfl q17 ?_
  refine xm_E_s r_X10_paste_37 rfl rfl ?_
  refine xm_E_f q18 ?_
  refine xm_E_s r_X10_paste_38 rfl rfl ?_
  refine xm_E_s r_X10_paste_39 rfl rfl ?_
  refine xm_E_s r_X10_paste_40 rfl rfl ?_
  refine xm_E_cv [.ref v5, .int l4, .int l5] [] r_X10_paste_41 rfl rfl (Nat.le_of_ble_eq_true rfl) (xm_rc q14 (by decide)) rfl q19 ?_
  refine xm_E_s r_X10_paste_42 rfl rfl ?_
  refine xm_E_f q20 ?_
  refine xm_E_s r_X10_paste_45 rfl rfl ?_
  refine xm_E_s r_X10_paste_46 rfl (xm_T_gr rfl q12 rfl rfl q21) ?_
  refine xm_E_s r_X10_paste_47 rfl rfl ?_
  refine xm_E_s r_X10_paste_48 rfl rfl ?_
  refine xm_E_s r_X10_paste_49 rfl (xm_T_gr rfl q14 rfl rfl q22) ?_
  refine xm_E_s r_X10_paste_50 rfl rfl ?_
  refine xm_E_s r_X10_paste_51 rfl rfl ?_
  refine xm_E_s r_X10_paste_52 rfl (xm_T_cpl rfl rfl q23 q24 q25) ?_
  refine xm_E_s r_X10_paste_53 rfl rfl ?_
  exact xm_E_iret r_X10_paste_54 rfl rfl
theorem p_X10_paste_0_7 {X : xm_X} {P : List xm_M} {d : Nat} {h : xm_H} {l0 : Nat} {l1 : Int32} {l2 : Int32} {l3 : Int32} {l4 : Int32} {l5 : Int32} {h0 : xm_H} {r0 : Int32} {h1 : xm_H} {r1 : Int32} {v2 : Nat} {n3 : Nat} {b3 : Nat} {v4 : Nat} {v5 : Nat} (q0 : xm_V X P d 68 [.int l1] h (some (.int r0)) h0) (q1 : ¬ (r0 = (0 : Int32))) (q2 : xm_V X P d 68 [.int l3] h0 (some (.int r1)) h1) (q3 : ¬ (r1 = (0 : Int32))) (q4 : X.1[l0]? = some (.inr 9)) (q5 : h1.2.2 l0 4 = some v2) (q6 : X.1[v2]? = some (.inl (b3, n3))) (q7 : ¬ (l1 < 0 ∨ n3 ≤ l1.toNatClampNeg)) (q8 : b3 = 4 ∨ b3 = 5) (q9 : h1.2.2 v2 l1.toNatClampNeg = some v4) (q10 : ¬ (l3 < 0 ∨ n3 ≤ l3.toNatClampNeg)) (q11 : h1.2.2 v2 l3.toNatClampNeg = some v5) (q12 : X.1[v4]? = some (.inr 2)) (q13 : ¬ (h1.1 v4 1 = (0 : Int32))) (q14 : X.1[v5]? = some (.inr 2)) (q15 : ¬ (h1.1 v5 1 = (0 : Int32))) (q16 : ¬ (h1.1 v4 2 = h1.1 v5 2)) : xm_E X P d co_X10_paste 0 [some (.ref l0), some (.int l1), some (.int l2), some (.int l3), some (.int l4), some (.int l5), none, none] [] h (some (.int (-8 : Int32))) h1 := by
  refine xm_E_s r_X10_paste_0 rfl rfl ?_
  refine xm_E_cs [.int l1] [] r_X10_paste_1 rfl rfl rfl (Nat.le_of_ble_eq_true rfl) rfl q0 ?_
  refine xm_E_s r_X10_paste_2 rfl rfl ?_
  refine xm_E_f q1 ?_
  refine xm_E_s r_X10_paste_3 rfl rfl ?_
  refine xm_E_cs [.int l3] [] r_X10_paste_4 rfl rfl rfl (Nat.le_of_ble_eq_true rfl) rfl q2 ?_
  refine xm_E_s r_X10_paste_5 rfl rfl ?_
  refine xm_E_f q3 ?_
  refine xm_E_s r_X10_paste_8 rfl rfl ?_
  refine xm_E_s r_X10_paste_9 rfl (xm_T_gr rfl q4 rfl rfl q5) ?_
  refine xm_E_s r_X10_paste_10 rfl rfl ?_
  refine xm_E_s r_X10_paste_11 rfl (xm_T_aald rfl q6 q8 q7 q9) ?_
  refine xm_E_s (ls1 := [some (.ref l0), some (.int l1), some (.int l2), some (.int l3), some (.int l4), some (.int l5), some (.ref v4), none]) r_X10_paste_12 rfl rfl ?_
  refine xm_E_s r_X10_paste_13 rfl rfl ?_
  refine xm_E_s r_X10_paste_14 rfl (xm_T_gr rfl q4 rfl rfl q5) ?_
  refine xm_E_s r_X10_paste_15 rfl rfl ?_
  refine xm_E_s r_X10_paste_16 rfl (xm_T_aald rfl q6 q8 q10 q11) ?_
  refine xm_E_s (ls1 := [some (.ref l0), some (.int l1), some (.int l2), some (.int l3), some (.int l4), some (.int l5), some (.ref v4), some (.ref v5)]) r_X10_paste_17 rfl rfl ?_
  refine xm_E_s r_X10_paste_18 rfl rfl ?_
  refine xm_E_s r_X10_paste_19 rfl (xm_T_gi rfl q12 rfl (Or.inr rfl)) ?_
  refine xm_E_s r_X10_paste_20 rfl rfl ?_
  refine xm_E_f q13 ?_
  refine xm_E_s r_X10_paste_21 rfl rfl ?_
  refine xm_E_s r_X10_paste_22 rfl (xm_T_gi rfl q14 rfl (Or.inr rfl)) ?_
  refine xm_E_s r_X10_paste_23 rfl rfl ?_
  refine xm_E_f q15 ?_
  refine xm_E_s r_X10_paste_26 rfl rfl ?_
  refine xm_E_s r_X10_paste_27 rfl (xm_T_gi rfl q12 rfl (Or.inl rfl)) ?_
  refine xm_E_s r_X10_paste_28 rfl rfl ?_
  refine xm_E_s r_X10_paste_29 rfl (xm_T_gi rfl q14 rfl (Or.inl rfl)) ?_
  refine xm_E_s r_X10_paste_30 rfl rfl ?_
  refine xm_E_f q16 ?_
  refine xm_E_s r_X10_paste_31 rfl rfl ?_
  exact xm_E_iret r_X10_paste_32 rfl rfl
end XMPA
