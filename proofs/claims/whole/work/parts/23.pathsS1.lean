/-! Ways through methods, printed by wip/gen/paths.py -/
section XMPA
theorem r_X3_explore_0 : co_X3_explore[0]? = some ((0, .aload_n 0, 0, 0, 0, 0, 0, 0, []) : xm_I) := rfl
theorem r_X3_explore_1 : co_X3_explore[1]? = some ((1, .getfield 46, 354, 3, 14, 0, 0, 0, []) : xm_I) := rfl
theorem r_X3_explore_2 : co_X3_explore[2]? = some ((4, .ifCond .le 39, 0, 0, 22, 0, 0, 0, []) : xm_I) := rfl
theorem r_X3_explore_3 : co_X3_explore[3]? = some ((7, .iload_n 1, 0, 0, 0, 0, 0, 0, []) : xm_I) := rfl
theorem r_X3_explore_4 : co_X3_explore[4]? = some ((8, .aload_n 0, 0, 0, 0, 0, 0, 0, []) : xm_I) := rfl
theorem r_X3_explore_5 : co_X3_explore[5]? = some ((9, .getfield 18, 342, 3, 2, 2, 0, 0, []) : xm_I) := rfl
theorem r_X3_explore_6 : co_X3_explore[6]? = some ((12, .iconst 0, 0, 0, 0, 0, 0, 0, []) : xm_I) := rfl
theorem r_X3_explore_7 : co_X3_explore[7]? = some ((13, .iaload, 0, 0, 0, 0, 0, 0, []) : xm_I) := rfl
theorem r_X3_explore_8 : co_X3_explore[8]? = some ((14, .if_icmp .ne 29, 0, 0, 22, 0, 0, 0, []) : xm_I) := rfl
theorem r_X3_explore_9 : co_X3_explore[9]? = some ((17, .iload_n 2, 0, 0, 0, 0, 0, 0, []) : xm_I) := rfl
theorem r_X3_explore_10 : co_X3_explore[10]? = some ((18, .aload_n 0, 0, 0, 0, 0, 0, 0, []) : xm_I) := rfl
theorem r_X3_explore_11 : co_X3_explore[11]? = some ((19, .getfield 50, 351, 3, 11, 0, 0, 0, []) : xm_I) := rfl
theorem r_X3_explore_12 : co_X3_explore[12]? = some ((22, .if_icmp .ne 21, 0, 0, 22, 0, 0, 0, []) : xm_I) := rfl
theorem r_X3_explore_13 : co_X3_explore[13]? = some ((25, .iload_n 3, 0, 0, 0, 0, 0, 0, []) : xm_I) := rfl
theorem r_X3_explore_14 : co_X3_explore[14]? = some ((26, .aload_n 0, 0, 0, 0, 0, 0, 0, []) : xm_I) := rfl
theorem r_X3_explore_15 : co_X3_explore[15]? = some ((27, .getfield 53, 352, 3, 12, 0, 0, 0, []) : xm_I) := rfl
theorem r_X3_explore_16 : co_X3_explore[16]? = some ((30, .if_icmp .ne 13, 0, 0, 22, 0, 0, 0, []) : xm_I) := rfl
theorem r_X3_explore_17 : co_X3_explore[17]? = some ((33, .iload 4, 0, 0, 0, 0, 0, 0, []) : xm_I) := rfl
theorem r_X3_explore_18 : co_X3_explore[18]? = some ((35, .aload_n 0, 0, 0, 0, 0, 0, 0, []) : xm_I) := rfl
theorem r_X3_explore_19 : co_X3_explore[19]? = some ((36, .getfield 56, 353, 3, 13, 0, 0, 0, []) : xm_I) := rfl
theorem r_X3_explore_20 : co_X3_explore[20]? = some ((39, .if_icmp .ne 4, 0, 0, 22, 0, 0, 0, []) : xm_I) := rfl
theorem r_X3_explore_21 : co_X3_explore[21]? = some ((42, .return_, 0, 0, 0, 0, 0, 0, []) : xm_I) := rfl
theorem r_X3_explore_22 : co_X3_explore[22]? = some ((43, .aload_n 0, 0, 0, 0, 0, 0, 0, []) : xm_I) := rfl
theorem r_X3_explore_23 : co_X3_explore[23]? = some ((44, .invokevirtual 59, 889, 82, 1, 3, 0, 0, []) : xm_I) := rfl
theorem r_X3_explore_24 : co_X3_explore[24]? = some ((47, .aload_n 0, 0, 0, 0, 0, 0, 0, []) : xm_I) := rfl
theorem r_X3_explore_25 : co_X3_explore[25]? = some ((48, .iload_n 2, 0, 0, 0, 0, 0, 0, []) : xm_I) := rfl
theorem r_X3_explore_26 : co_X3_explore[26]? = some ((49, .putfield 50, 351, 3, 11, 0, 0, 0, []) : xm_I) := rfl
theorem r_X3_explore_27 : co_X3_explore[27]? = some ((52, .aload_n 0, 0, 0, 0, 0, 0, 0, []) : xm_I) := rfl
theorem r_X3_explore_28 : co_X3_explore[28]? = some ((53, .iload_n 3, 0, 0, 0, 0, 0, 0, []) : xm_I) := rfl
theorem r_X3_explore_29 : co_X3_explore[29]? = some ((54, .putfield 53, 352, 3, 12, 0, 0, 0, []) : xm_I) := rfl
theorem r_X3_explore_30 : co_X3_explore[30]? = some ((57, .aload_n 0, 0, 0, 0, 0, 0, 0, []) : xm_I) := rfl
theorem r_X3_explore_31 : co_X3_explore[31]? = some ((58, .iload 4, 0, 0, 0, 0, 0, 0, []) : xm_I) := rfl
theorem r_X3_explore_32 : co_X3_explore[32]? = some ((60, .putfield 56, 353, 3, 13, 0, 0, 0, []) : xm_I) := rfl
theorem r_X3_explore_33 : co_X3_explore[33]? = some ((63, .aload_n 0, 0, 0, 0, 0, 0, 0, []) : xm_I) := rfl
theorem r_X3_explore_34 : co_X3_explore[34]? = some ((64, .iload_n 1, 0, 0, 0, 0, 0, 0, []) : xm_I) := rfl
theorem r_X3_explore_35 : co_X3_explore[35]? = some ((65, .iconst (-1), 0, 0, 0, 0, (-1), 0, []) : xm_I) := rfl
theorem r_X3_explore_36 : co_X3_explore[36]? = some ((66, .iconst (-1), 0, 0, 0, 0, (-1), 0, []) : xm_I) := rfl
theorem r_X3_explore_37 : co_X3_explore[37]? = some ((67, .invokevirtual 62, 899, 84, 4, 3, 0, 0, []) : xm_I) := rfl
theorem r_X3_explore_38 : co_X3_explore[38]? = some ((70, .pop, 0, 0, 0, 0, 0, 0, []) : xm_I) := rfl
theorem r_X3_explore_39 : co_X3_explore[39]? = some ((71, .iconst 0, 0, 0, 0, 0, 0, 0, []) : xm_I) := rfl
theorem r_X3_explore_40 : co_X3_explore[40]? = some ((72, .istore 5, 0, 0, 0, 0, 0, 0, []) : xm_I) := rfl
theorem r_X3_explore_41 : co_X3_explore[41]? = some ((74, .iload 5, 0, 0, 0, 0, 0, 0, []) : xm_I) := rfl
theorem r_X3_explore_42 : co_X3_explore[42]? = some ((76, .aload_n 0, 0, 0, 0, 0, 0, 0, []) : xm_I) := rfl
theorem r_X3_explore_43 : co_X3_explore[43]? = some ((77, .getfield 46, 354, 3, 14, 0, 0, 0, []) : xm_I) := rfl
theorem r_X3_explore_44 : co_X3_explore[44]? = some ((80, .if_icmp .ge 23, 0, 0, 53, 0, 0, 0, []) : xm_I) := rfl
theorem r_X3_explore_45 : co_X3_explore[45]? = some ((83, .iload 5, 0, 0, 0, 0, 0, 0, []) : xm_I) := rfl
theorem r_X3_explore_46 : co_X3_explore[46]? = some ((85, .sipush 640, 0, 0, 0, 0, 640, 0, []) : xm_I) := rfl
theorem r_X3_explore_47 : co_X3_explore[47]? = some ((88, .if_icmp .ge 15, 0, 0, 53, 0, 0, 0, []) : xm_I) := rfl
theorem r_X3_explore_48 : co_X3_explore[48]? = some ((91, .aload_n 0, 0, 0, 0, 0, 0, 0, []) : xm_I) := rfl
theorem r_X3_explore_49 : co_X3_explore[49]? = some ((92, .iload 5, 0, 0, 0, 0, 0, 0, []) : xm_I) := rfl
theorem r_X3_explore_50 : co_X3_explore[50]? = some ((94, .invokevirtual 66, 910, 86, 2, 3, 0, 0, []) : xm_I) := rfl
theorem r_X3_explore_51 : co_X3_explore[51]? = some ((97, .iinc 5 1, 0, 0, 0, 0, 1, 0, []) : xm_I) := rfl
theorem r_X3_explore_52 : co_X3_explore[52]? = some ((100, .goto (-26), 0, 0, 41, 0, 0, 0, []) : xm_I) := rfl
theorem r_X3_explore_53 : co_X3_explore[53]? = some ((103, .return_, 0, 0, 0, 0, 0, 0, []) : xm_I) := rfl
theorem p_X3_explore_0_0 {X : xm_X} {P : List xm_M} {d : Nat} {h : xm_H} {l0 : Nat} {l1 : Int32} {l2 : Int32} {l3 : Int32} {l4 : Int32} {h0 : xm_H} {h1 : xm_H} {r1 : Int32} {ro : Option Value} {ho : xm_H} (q0 : X.1[l0]? = some (.inr 3)) (q1 : h.1 l0 14 ≤ (0 : Int32)) (q2 : xm_V X P d 82 [.ref l0] h none h0) (q3 : xm_V X P d 84 [.ref l0, .int l1, .int (-1 : Int32), .int (-1 : Int32)] (xm_si (xm_si (xm_si h0 l0 11 l2) l0 12 l3) l0 13 l4) (some (.int r1)) h1) (K : xm_E X P d co_X3_explore 41 [some (.ref l0), some (.int l1), some (.int l2), some (.int l3), some (.int l4), some (.int (0 : Int32))] [] h1 ro ho) : xm_E X P d co_X3_explore 0 [some (.ref l0), some (.int l1), some (.int l2), some (.int l3), some (.int l4), none] [] h ro ho := by
  refine xm_E_s r_X3_explore_0 rfl rfl ?_
  refine xm_E_s r_X3_explore_1 rfl (xm_T_gi rfl q0 rfl (Or.inl rfl)) ?_
  refine xm_E_s r_X3_explore_2 rfl rfl ?_
  refine xm_E_t q1 ?_
  refine xm_E_s r_X3_explore_22 rfl rfl ?_
  refine xm_E_cv [.ref l0] [] r_X3_explore_23 rfl rfl (Nat.le_of_ble_eq_true rfl) (xm_rc q0 (by decide)) rfl q2 ?_
  refine xm_E_s r_X3_explore_24 rfl rfl ?_
  refine xm_E_s r_X3_explore_25 rfl rfl ?_
  refine xm_E_s r_X3_explore_26 rfl (xm_T_pi rfl q0 rfl rfl) ?_
  refine xm_E_s r_X3_explore_27 rfl rfl ?_
  refine xm_E_s r_X3_explore_28 rfl rfl ?_
  refine xm_E_s r_X3_explore_29 rfl (xm_T_pi rfl q0 rfl rfl) ?_
  refine xm_E_s r_X3_explore_30 rfl rfl ?_
  refine xm_E_s r_X3_explore_31 rfl rfl ?_
  refine xm_E_s r_X3_explore_32 rfl (xm_T_pi rfl q0 rfl rfl) ?_
  refine xm_E_s r_X3_explore_33 rfl rfl ?_
  refine xm_E_s r_X3_explore_34 rfl rfl ?_
  refine xm_E_s r_X3_explore_35 rfl rfl ?_
  refine xm_E_s r_X3_explore_36 rfl rfl ?_
  refine xm_E_cv [.ref l0, .int l1, .int (-1 : Int32), .int (-1 : Int32)] [] r_X3_explore_37 rfl rfl (Nat.le_of_ble_eq_true rfl) (xm_rc q0 (by decide)) rfl q3 ?_
  refine xm_E_s r_X3_explore_38 rfl rfl ?_
  refine xm_E_s r_X3_explore_39 rfl rfl ?_
  refine xm_E_s (ls1 := [some (.ref l0), some (.int l1), some (.int l2), some (.int l3), some (.int l4), some (.int (0 : Int32))]) r_X3_explore_40 rfl rfl ?_
  exact K
theorem p_X3_explore_0_1 {X : xm_X} {P : List xm_M} {d : Nat} {h : xm_H} {l0 : Nat} {l1 : Int32} {l2 : Int32} {l3 : Int32} {l4 : Int32} {v0 : Nat} {n1 : Nat} (q0 : X.1[l0]? = some (.inr 3)) (q1 : ¬ (h.1 l0 14 ≤ (0 : Int32))) (q2 : h.2.2 l0 2 = some v0) (q3 : X.1[v0]? = some (.inl (0, n1))) (q4 : 0 < n1) (q5 : l1 = h.1 v0 0) (q6 : l2 = h.1 l0 11) (q7 : l3 = h.1 l0 12) (q8 : l4 = h.1 l0 13) : xm_E X P d co_X3_explore 0 [some (.ref l0), some (.int l1), some (.int l2), some (.int l3), some (.int l4), none] [] h none h := by
  refine xm_E_s r_X3_explore_0 rfl rfl ?_
  refine xm_E_s r_X3_explore_1 rfl (xm_T_gi rfl q0 rfl (Or.inl rfl)) ?_
  refine xm_E_s r_X3_explore_2 rfl rfl ?_
  refine xm_E_f q1 ?_
  refine xm_E_s r_X3_explore_3 rfl rfl ?_
  refine xm_E_s r_X3_explore_4 rfl rfl ?_
  refine xm_E_s r_X3_explore_5 rfl (xm_T_gr rfl q0 rfl rfl q2) ?_
  refine xm_E_s r_X3_explore_6 rfl rfl ?_
  refine xm_E_s r_X3_explore_7 rfl (xm_T_iald rfl q3 (by decide) (fun e => e.elim (fun e => absurd e (by decide)) (fun e => Nat.not_le.mpr q4 e))) ?_
  refine xm_E_s r_X3_explore_8 rfl rfl ?_
  refine xm_E_t q5 ?_
  refine xm_E_s r_X3_explore_9 rfl rfl ?_
  refine xm_E_s r_X3_explore_10 rfl rfl ?_
  refine xm_E_s r_X3_explore_11 rfl (xm_T_gi rfl q0 rfl (Or.inl rfl)) ?_
  refine xm_E_s r_X3_explore_12 rfl rfl ?_
  refine xm_E_t q6 ?_
  refine xm_E_s r_X3_explore_13 rfl rfl ?_
  refine xm_E_s r_X3_explore_14 rfl rfl ?_
  refine xm_E_s r_X3_explore_15 rfl (xm_T_gi rfl q0 rfl (Or.inl rfl)) ?_
  refine xm_E_s r_X3_explore_16 rfl rfl ?_
  refine xm_E_t q7 ?_
  refine xm_E_s r_X3_explore_17 rfl rfl ?_
  refine xm_E_s r_X3_explore_18 rfl rfl ?_
  refine xm_E_s r_X3_explore_19 rfl (xm_T_gi rfl q0 rfl (Or.inl rfl)) ?_
  refine xm_E_s r_X3_explore_20 rfl rfl ?_
  refine xm_E_t q8 ?_
  exact xm_E_ret r_X3_explore_21 rfl
theorem p_X3_explore_0_2 {X : xm_X} {P : List xm_M} {d : Nat} {h : xm_H} {l0 : Nat} {l1 : Int32} {l2 : Int32} {l3 : Int32} {l4 : Int32} {v0 : Nat} {n1 : Nat} {h2 : xm_H} {h3 : xm_H} {r3 : Int32} {ro : Option Value} {ho : xm_H} (q0 : X.1[l0]? = some (.inr 3)) (q1 : ¬ (h.1 l0 14 ≤ (0 : Int32))) (q2 : h.2.2 l0 2 = some v0) (q3 : X.1[v0]? = some (.inl (0, n1))) (q4 : 0 < n1) (q5 : l1 = h.1 v0 0) (q6 : l2 = h.1 l0 11) (q7 : l3 = h.1 l0 12) (q8 : ¬ (l4 = h.1 l0 13)) (q9 : xm_V X P d 82 [.ref l0] h none h2) (q10 : xm_V X P d 84 [.ref l0, .int l1, .int (-1 : Int32), .int (-1 : Int32)] (xm_si (xm_si (xm_si h2 l0 11 l2) l0 12 l3) l0 13 l4) (some (.int r3)) h3) (K : xm_E X P d co_X3_explore 41 [some (.ref l0), some (.int l1), some (.int l2), some (.int l3), some (.int l4), some (.int (0 : Int32))] [] h3 ro ho) : xm_E X P d co_X3_explore 0 [some (.ref l0), some (.int l1), some (.int l2), some (.int l3), some (.int l4), none] [] h ro ho := by
  refine xm_E_s r_X3_explore_0 rfl rfl ?_
  refine xm_E_s r_X3_explore_1 rfl (xm_T_gi rfl q0 rfl (Or.inl rfl)) ?_
  refine xm_E_s r_X3_explore_2 rfl rfl ?_
  refine xm_E_f q1 ?_
  refine xm_E_s r_X3_explore_3 rfl rfl ?_
  refine xm_E_s r_X3_explore_4 rfl rfl ?_
  refine xm_E_s r_X3_explore_5 rfl (xm_T_gr rfl q0 rfl rfl q2) ?_
  refine xm_E_s r_X3_explore_6 rfl rfl ?_
  refine xm_E_s r_X3_explore_7 rfl (xm_T_iald rfl q3 (by decide) (fun e => e.elim (fun e => absurd e (by decide)) (fun e => Nat.not_le.mpr q4 e))) ?_
  refine xm_E_s r_X3_explore_8 rfl rfl ?_
  refine xm_E_t q5 ?_
  refine xm_E_s r_X3_explore_9 rfl rfl ?_
  refine xm_E_s r_X3_explore_10 rfl rfl ?_
  refine xm_E_s r_X3_explore_11 rfl (xm_T_gi rfl q0 rfl (Or.inl rfl)) ?_
  refine xm_E_s r_X3_explore_12 rfl rfl ?_
  refine xm_E_t q6 ?_
  refine xm_E_s r_X3_explore_13 rfl rfl ?_
  refine xm_E_s r_X3_explore_14 rfl rfl ?_
  refine xm_E_s r_X3_explore_15 rfl (xm_T_gi rfl q0 rfl (Or.inl rfl)) ?_
  refine xm_E_s r_X3_explore_16 rfl rfl ?_
  refine xm_E_t q7 ?_
  refine xm_E_s r_X3_explore_17 rfl rfl ?_
  refine xm_E_s r_X3_explore_18 rfl rfl ?_
  refine xm_E_s r_X3_explore_19 rfl (xm_T_gi rfl q0 rfl (Or.inl rfl)) ?_
  refine xm_E_s r_X3_explore_20 rfl rfl ?_
  refine xm_E_f q8 ?_
  refine xm_E_s r_X3_explore_22 rfl rfl ?_
  refine xm_E_cv [.ref l0] [] r_X3_explore_23 rfl rfl (Nat.le_of_ble_eq_true rfl) (xm_rc q0 (by decide)) rfl q9 ?_
  refine xm_E_s r_X3_explore_24 rfl rfl ?_
  refine xm_E_s r_X3_explore_25 rfl rfl ?_
  refine xm_E_s r_X3_explore_26 rfl (xm_T_pi rfl q0 rfl rfl) ?_
  refine xm_E_s r_X3_explore_27 rfl rfl ?_
  refine xm_E_s r_X3_explore_28 rfl rfl ?_
  refine xm_E_s r_X3_explore_29 rfl (xm_T_pi rfl q0 rfl rfl) ?_
  refine xm_E_s r_X3_explore_30 rfl rfl ?_
  refine xm_E_s r_X3_explore_31 rfl rfl ?_
  refine xm_E_s r_X3_explore_32 rfl (xm_T_pi rfl q0 rfl rfl) ?_
  refine xm_E_s r_X3_explore_33 rfl rfl ?_
  refine xm_E_s r_X3_explore_34 rfl rfl ?_
  refine xm_E_s r_X3_explore_35 rfl rfl ?_
  refine xm_E_s r_X3_explore_36 rfl rfl ?_
  refine xm_E_cv [.ref l0, .int l1, .int (-1 : Int32), .int (-1 : Int32)] [] r_X3_explore_37 rfl rfl (Nat.le_of_ble_eq_true rfl) (xm_rc q0 (by decide)) rfl q10 ?_
  refine xm_E_s r_X3_explore_38 rfl rfl ?_
  refine xm_E_s r_X3_explore_39 rfl rfl ?_
  refine xm_E_s (ls1 := [some (.ref l0), some (.int l1), some (.int l2), some (.int l3), some (.int l4), some (.int (0 : Int32))]) r_X3_explore_40 rfl rfl ?_
  exact K
theorem p_X3_explore_0_3 {X : xm_X} {P : List xm_M} {d : Nat} {h : xm_H} {l0 : Nat} {l1 : Int32} {l2 : Int32} {l3 : Int32} {l4 : Int32} {v0 : Nat} {n1 : Nat} {h2 : xm_H} {h3 : xm_H} {r3 : Int32} {ro : Option Value} {ho : xm_H} (q0 : X.1[l0]? = some (.inr 3)) (q1 : ¬ (h.1 l0 14 ≤ (0 : Int32))) (q2 : h.2.2 l0 2 = some v0) (q3 : X.1[v0]? = some (.inl (0, n1))) (q4 : 0 < n1) (q5 : l1 = h.1 v0 0) (q6 : l2 = h.1 l0 11) (q7 : ¬ (l3 = h.1 l0 12)) (q8 : xm_V X P d 82 [.ref l0] h none h2) (q9 : xm_V X P d 84 [.ref l0, .int l1, .int (-1 : Int32), .int (-1 : Int32)] (xm_si (xm_si (xm_si h2 l0 11 l2) l0 12 l3) l0 13 l4) (some (.int r3)) h3) (K : xm_E X P d co_X3_explore 41 [some (.ref l0), some (.int l1), some (.int l2), some (.int l3), some (.int l4), some (.int (0 : Int32))] [] h3 ro ho) : xm_E X P d co_X3_explore 0 [some (.ref l0), some (.int l1), some (.int l2), some (.int l3), some (.int l4), none] [] h ro ho := by
  refine xm_E_s r_X3_explore_0 rfl rfl ?_
  refine xm_E_s r_X3_explore_1 rfl (xm_T_gi rfl q0 rfl (Or.inl rfl)) ?_
  refine xm_E_s r_X3_explore_2 rfl rfl ?_
  refine xm_E_f q1 ?_
  refine xm_E_s r_X3_explore_3 rfl rfl ?_
  refine xm_E_s r_X3_explore_4 rfl rfl ?_
  refine xm_E_s r_X3_explore_5 rfl (xm_T_gr rfl q0 rfl rfl q2) ?_
  refine xm_E_s r_X3_explore_6 rfl rfl ?_
  refine xm_E_s r_X3_explore_7 rfl (xm_T_iald rfl q3 (by decide) (fun e => e.elim (fun e => absurd e (by decide)) (fun e => Nat.not_le.mpr q4 e))) ?_
  refine xm_E_s r_X3_explore_8 rfl rfl ?_
  refine xm_E_t q5 ?_
  refine xm_E_s r_X3_explore_9 rfl rfl ?_
  refine xm_E_s r_X3_explore_10 rfl rfl ?_
  refine xm_E_s r_X3_explore_11 rfl (xm_T_gi rfl q0 rfl (Or.inl rfl)) ?_
  refine xm_E_s r_X3_explore_12 rfl rfl ?_
  refine xm_E_t q6 ?_
  refine xm_E_s r_X3_explore_13 rfl rfl ?_
  refine xm_E_s r_X3_explore_14 rfl rfl ?_
  refine xm_E_s r_X3_explore_15 rfl (xm_T_gi rfl q0 rfl (Or.inl rfl)) ?_
  refine xm_E_s r_X3_explore_16 rfl rfl ?_
  refine xm_E_f q7 ?_
  refine xm_E_s r_X3_explore_22 rfl rfl ?_
  refine xm_E_cv [.ref l0] [] r_X3_explore_23 rfl rfl (Nat.le_of_ble_eq_true rfl) (xm_rc q0 (by decide)) rfl q8 ?_
  refine xm_E_s r_X3_explore_24 rfl rfl ?_
  refine xm_E_s r_X3_explore_25 rfl rfl ?_
  refine xm_E_s r_X3_explore_26 rfl (xm_T_pi rfl q0 rfl rfl) ?_
  refine xm_E_s r_X3_explore_27 rfl rfl ?_
  refine xm_E_s r_X3_explore_28 rfl rfl ?_
  refine xm_E_s r_X3_explore_29 rfl (xm_T_pi rfl q0 rfl rfl) ?_
  refine xm_E_s r_X3_explore_30 rfl rfl ?_
  refine xm_E_s r_X3_explore_31 rfl rfl ?_
  refine xm_E_s r_X3_explore_32 rfl (xm_T_pi rfl q0 rfl rfl) ?_
  refine xm_E_s r_X3_explore_33 rfl rfl ?_
  refine xm_E_s r_X3_explore_34 rfl rfl ?_
  refine xm_E_s r_X3_explore_35 rfl rfl ?_
  refine xm_E_s r_X3_explore_36 rfl rfl ?_
  refine xm_E_cv [.ref l0, .int l1, .int (-1 : Int32), .int (-1 : Int32)] [] r_X3_explore_37 rfl rfl (Nat.le_of_ble_eq_true rfl) (xm_rc q0 (by decide)) rfl q9 ?_
  refine xm_E_s r_X3_explore_38 rfl rfl ?_
  refine xm_E_s r_X3_explore_39 rfl rfl ?_
  refine xm_E_s (ls1 := [some (.ref l0), some (.int l1), some (.int l2), some (.int l3), some (.int l4), some (.int (0 : Int32))]) r_X3_explore_40 rfl rfl ?_
  exact K
theorem p_X3_explore_0_4 {X : xm_X} {P : List xm_M} {d : Nat} {h : xm_H} {l0 : Nat} {l1 : Int32} {l2 : Int32} {l3 : Int32} {l4 : Int32} {v0 : Nat} {n1 : Nat} {h2 : xm_H} {h3 : xm_H} {r3 : Int32} {ro : Option Value} {ho : xm_H} (q0 : X.1[l0]? = some (.inr 3)) (q1 : ¬ (h.1 l0 14 ≤ (0 : Int32))) (q2 : h.2.2 l0 2 = some v0) (q3 : X.1[v0]? = some (.inl (0, n1))) (q4 : 0 < n1) (q5 : l1 = h.1 v0 0) (q6 : ¬ (l2 = h.1 l0 11)) (q7 : xm_V X P d 82 [.ref l0] h none h2) (q8 : xm_V X P d 84 [.ref l0, .int l1, .int (-1 : Int32), .int (-1 : Int32)] (xm_si (xm_si (xm_si h2 l0 11 l2) l0 12 l3) l0 13 l4) (some (.int r3)) h3) (K : xm_E X P d co_X3_explore 41 [some (.ref l0), some (.int l1), some (.int l2), some (.int l3), some (.int l4), some (.int (0 : Int32))] [] h3 ro ho) : xm_E X P d co_X3_explore 0 [some (.ref l0), some (.int l1), some (.int l2), some (.int l3), some (.int l4), none] [] h ro ho := by
  refine xm_E_s r_X3_explore_0 rfl rfl ?_
  refine xm_E_s r_X3_explore_1 rfl (xm_T_gi rfl q0 rfl (Or.inl rfl)) ?_
  refine xm_E_s r_X3_explore_2 rfl rfl ?_
  refine xm_E_f q1 ?_
  refine xm_E_s r_X3_explore_3 rfl rfl ?_
  refine xm_E_s r_X3_explore_4 rfl rfl ?_
  refine xm_E_s r_X3_explore_5 rfl (xm_T_gr rfl q0 rfl rfl q2) ?_
  refine xm_E_s r_X3_explore_6 rfl rfl ?_
  refine xm_E_s r_X3_explore_7 rfl (xm_T_iald rfl q3 (by decide) (fun e => e.elim (fun e => absurd e (by decide)) (fun e => Nat.not_le.mpr q4 e))) ?_
  refine xm_E_s r_X3_explore_8 rfl rfl ?_
  refine xm_E_t q5 ?_
  refine xm_E_s r_X3_explore_9 rfl rfl ?_
  refine xm_E_s r_X3_explore_10 rfl rfl ?_
  refine xm_E_s r_X3_explore_11 rfl (xm_T_gi rfl q0 rfl (Or.inl rfl)) ?_
  refine xm_E_s r_X3_explore_12 rfl rfl ?_
  refine xm_E_f q6 ?_
  refine xm_E_s r_X3_explore_22 rfl rfl ?_
  refine xm_E_cv [.ref l0] [] r_X3_explore_23 rfl rfl (Nat.le_of_ble_eq_true rfl) (xm_rc q0 (by decide)) rfl q7 ?_
  refine xm_E_s r_X3_explore_24 rfl rfl ?_
  refine xm_E_s r_X3_explore_25 rfl rfl ?_
  refine xm_E_s r_X3_explore_26 rfl (xm_T_pi rfl q0 rfl rfl) ?_
  refine xm_E_s r_X3_explore_27 rfl rfl ?_
  refine xm_E_s r_X3_explore_28 rfl rfl ?_
  refine xm_E_s r_X3_explore_29 rfl (xm_T_pi rfl q0 rfl rfl) ?_
  refine xm_E_s r_X3_explore_30 rfl rfl ?_
  refine xm_E_s r_X3_explore_31 rfl rfl ?_
  refine xm_E_s r_X3_explore_32 rfl (xm_T_pi rfl q0 rfl rfl) ?_
  refine xm_E_s r_X3_explore_33 rfl rfl ?_
  refine xm_E_s r_X3_explore_34 rfl rfl ?_
  refine xm_E_s r_X3_explore_35 rfl rfl ?_
  refine xm_E_s r_X3_explore_36 rfl rfl ?_
  refine xm_E_cv [.ref l0, .int l1, .int (-1 : Int32), .int (-1 : Int32)] [] r_X3_explore_37 rfl rfl (Nat.le_of_ble_eq_true rfl) (xm_rc q0 (by decide)) rfl q8 ?_
  refine xm_E_s r_X3_explore_38 rfl rfl ?_
  refine xm_E_s r_X3_explore_39 rfl rfl ?_
  refine xm_E_s (ls1 := [some (.ref l0), some (.int l1), some (.int l2), some (.int l3), some (.int l4), some (.int (0 : Int32))]) r_X3_explore_40 rfl rfl ?_
  exact K
theorem p_X3_explore_0_5 {X : xm_X} {P : List xm_M} {d : Nat} {h : xm_H} {l0 : Nat} {l1 : Int32} {l2 : Int32} {l3 : Int32} {l4 : Int32} {v0 : Nat} {n1 : Nat} {h2 : xm_H} {h3 : xm_H} {r3 : Int32} {ro : Option Value} {ho : xm_H} (q0 : X.1[l0]? = some (.inr 3)) (q1 : ¬ (h.1 l0 14 ≤ (0 : Int32))) (q2 : h.2.2 l0 2 = some v0) (q3 : X.1[v0]? = some (.inl (0, n1))) (q4 : 0 < n1) (q5 : ¬ (l1 = h.1 v0 0)) (q6 : xm_V X P d 82 [.ref l0] h none h2) (q7 : xm_V X P d 84 [.ref l0, .int l1, .int (-1 : Int32), .int (-1 : Int32)] (xm_si (xm_si (xm_si h2 l0 11 l2) l0 12 l3) l0 13 l4) (some (.int r3)) h3) (K : xm_E X P d co_X3_explore 41 [some (.ref l0), some (.int l1), some (.int l2), some (.int l3), some (.int l4), some (.int (0 : Int32))] [] h3 ro ho) : xm_E X P d co_X3_explore 0 [some (.ref l0), some (.int l1), some (.int l2), some (.int l3), some (.int l4), none] [] h ro ho := by
  refine xm_E_s r_X3_explore_0 rfl rfl ?_
  refine xm_E_s r_X3_explore_1 rfl (xm_T_gi rfl q0 rfl (Or.inl rfl)) ?_
  refine xm_E_s r_X3_explore_2 rfl rfl ?_
  refine xm_E_f q1 ?_
  refine xm_E_s r_X3_explore_3 rfl rfl ?_
  refine xm_E_s r_X3_explore_4 rfl rfl ?_
  refine xm_E_s r_X3_explore_5 rfl (xm_T_gr rfl q0 rfl rfl q2) ?_
  refine xm_E_s r_X3_explore_6 rfl rfl ?_
  refine xm_E_s r_X3_explore_7 rfl (xm_T_iald rfl q3 (by decide) (fun e => e.elim (fun e => absurd e (by decide)) (fun e => Nat.not_le.mpr q4 e))) ?_
  refine xm_E_s r_X3_explore_8 rfl rfl ?_
  refine xm_E_f q5 ?_
  refine xm_E_s r_X3_explore_22 rfl rfl ?_
  refine xm_E_cv [.ref l0] [] r_X3_explore_23 rfl rfl (Nat.le_of_ble_eq_true rfl) (xm_rc q0 (by decide)) rfl q6 ?_
  refine xm_E_s r_X3_explore_24 rfl rfl ?_
  refine xm_E_s r_X3_explore_25 rfl rfl ?_
  refine xm_E_s r_X3_explore_26 rfl (xm_T_pi rfl q0 rfl rfl) ?_
  refine xm_E_s r_X3_explore_27 rfl rfl ?_
  refine xm_E_s r_X3_explore_28 rfl rfl ?_
  refine xm_E_s r_X3_explore_29 rfl (xm_T_pi rfl q0 rfl rfl) ?_
  refine xm_E_s r_X3_explore_30 rfl rfl ?_
  refine xm_E_s r_X3_explore_31 rfl rfl ?_
  refine xm_E_s r_X3_explore_32 rfl (xm_T_pi rfl q0 rfl rfl) ?_
  refine xm_E_s r_X3_explore_33 rfl rfl ?_
  refine xm_E_s r_X3_explore_34 rfl rfl ?_
  refine xm_E_s r_X3_explore_35 rfl rfl ?_
  refine xm_E_s r_X3_explore_36 rfl rfl ?_
  refine xm_E_cv [.ref l0, .int l1, .int (-1 : Int32), .int (-1 : Int32)] [] r_X3_explore_37 rfl rfl (Nat.le_of_ble_eq_true rfl) (xm_rc q0 (by decide)) rfl q7 ?_
  refine xm_E_s r_X3_explore_38 rfl rfl ?_
  refine xm_E_s r_X3_explore_39 rfl rfl ?_
  refine xm_E_s (ls1 := [some (.ref l0), some (.int l1), some (.int l2), some (.int l3), some (.int l4), some (.int (0 : Int32))]) r_X3_explore_40 rfl rfl ?_
  exact K
theorem p_X3_explore_41_0 {X : xm_X} {P : List xm_M} {d : Nat} {h : xm_H} {l0 : Nat} {l1 : Int32} {l2 : Int32} {l3 : Int32} {l4 : Int32} {l5 : Int32} (q0 : X.1[l0]? = some (.inr 3)) (q1 : h.1 l0 14 ≤ l5) : xm_E X P d co_X3_explore 41 [some (.ref l0), some (.int l1), some (.int l2), some (.int l3), some (.int l4), some (.int l5)] [] h none h := by
  refine xm_E_s r_X3_explore_41 rfl rfl ?_
  refine xm_E_s r_X3_explore_42 rfl rfl ?_
  refine xm_E_s r_X3_explore_43 rfl (xm_T_gi rfl q0 rfl (Or.inl rfl)) ?_
  refine xm_E_s r_X3_explore_44 rfl rfl ?_
  refine xm_E_t q1 ?_
  exact xm_E_ret r_X3_explore_53 rfl
theorem p_X3_explore_41_1 {X : xm_X} {P : List xm_M} {d : Nat} {h : xm_H} {l0 : Nat} {l1 : Int32} {l2 : Int32} {l3 : Int32} {l4 : Int32} {l5 : Int32} (q0 : X.1[l0]? = some (.inr 3)) (q1 : ¬ (h.1 l0 14 ≤ l5)) (q2 : (640 : Int32) ≤ l5) : xm_E X P d co_X3_explore 41 [some (.ref l0), some (.int l1), some (.int l2), some (.int l3), some (.int l4), some (.int l5)] [] h none h := by
  refine xm_E_s r_X3_explore_41 rfl rfl ?_
  refine xm_E_s r_X3_explore_42 rfl rfl ?_
  refine xm_E_s r_X3_explore_43 rfl (xm_T_gi rfl q0 rfl (Or.inl rfl)) ?_
  refine xm_E_s r_X3_explore_44 rfl rfl ?_
  refine xm_E_f q1 ?_
  refine xm_E_s r_X3_explore_45 rfl rfl ?_
  refine xm_E_s r_X3_explore_46 rfl rfl ?_
  refine xm_E_s r_X3_explore_47 rfl rfl ?_
  refine xm_E_t q2 ?_
  exact xm_E_ret r_X3_explore_53 rfl
theorem p_X3_explore_41_2 {X : xm_X} {P : List xm_M} {d : Nat} {h : xm_H} {l0 : Nat} {l1 : Int32} {l2 : Int32} {l3 : Int32} {l4 : Int32} {l5 : Int32} {h0 : xm_H} {ro : Option Value} {ho : xm_H} (q0 : X.1[l0]? = some (.inr 3)) (q1 : ¬ (h.1 l0 14 ≤ l5)) (q2 : ¬ ((640 : Int32) ≤ l5)) (q3 : xm_V X P d 86 [.ref l0, .int l5] h none h0) (K : xm_E X P d co_X3_explore 41 [some (.ref l0), some (.int l1), some (.int l2), some (.int l3), some (.int l4), some (.int (l5 + (1 : Int32)))] [] h0 ro ho) : xm_E X P d co_X3_explore 41 [some (.ref l0), some (.int l1), some (.int l2), some (.int l3), some (.int l4), some (.int l5)] [] h ro ho := by
  refine xm_E_s r_X3_explore_41 rfl rfl ?_
  refine xm_E_s r_X3_explore_42 rfl rfl ?_
  refine xm_E_s r_X3_explore_43 rfl (xm_T_gi rfl q0 rfl (Or.inl rfl)) ?_
  refine xm_E_s r_X3_explore_44 rfl rfl ?_
  refine xm_E_f q1 ?_
  refine xm_E_s r_X3_explore_45 rfl rfl ?_
  refine xm_E_s r_X3_explore_46 rfl rfl ?_
  refine xm_E_s r_X3_explore_47 rfl rfl ?_
  refine xm_E_f q2 ?_
  refine xm_E_s r_X3_explore_48 rfl rfl ?_
  refine xm_E_s r_X3_explore_49 rfl rfl ?_
  refine xm_E_cv [.ref l0, .int l5] [] r_X3_explore_50 rfl rfl (Nat.le_of_ble_eq_true rfl) (xm_rc q0 (by decide)) rfl q3 ?_
  refine xm_E_s (ls1 := [some (.ref l0), some (.int l1), some (.int l2), some (.int l3), some (.int l4), some (.int (l5 + (1 : Int32)))]) r_X3_explore_51 rfl rfl ?_
  refine xm_E_s r_X3_explore_52 rfl rfl ?_
  exact K
theorem r_X3_forget_0 : co_X3_forget[0]? = some ((0, .iconst 0, 0, 0, 0, 0, 0, 0, []) : xm_I) := rfl
theorem r_X3_forget_1 : co_X3_forget[1]? = some ((1, .istore_n 1, 0, 0, 0, 0, 0, 0, []) : xm_I) := rfl
theorem r_X3_forget_2 : co_X3_forget[2]? = some ((2, .iload_n 1, 0, 0, 0, 0, 0, 0, []) : xm_I) := rfl
theorem r_X3_forget_3 : co_X3_forget[3]? = some ((3, .aload_n 0, 0, 0, 0, 0, 0, 0, []) : xm_I) := rfl
theorem r_X3_forget_4 : co_X3_forget[4]? = some ((4, .getfield 46, 354, 3, 14, 0, 0, 0, []) : xm_I) := rfl
theorem r_X3_forget_5 : co_X3_forget[5]? = some ((7, .if_icmp .ge 38, 0, 0, 25, 0, 0, 0, []) : xm_I) := rfl
theorem r_X3_forget_6 : co_X3_forget[6]? = some ((10, .iload_n 1, 0, 0, 0, 0, 0, 0, []) : xm_I) := rfl
theorem r_X3_forget_7 : co_X3_forget[7]? = some ((11, .sipush 640, 0, 0, 0, 0, 640, 0, []) : xm_I) := rfl
theorem r_X3_forget_8 : co_X3_forget[8]? = some ((14, .if_icmp .ge 31, 0, 0, 25, 0, 0, 0, []) : xm_I) := rfl
theorem r_X3_forget_9 : co_X3_forget[9]? = some ((17, .aload_n 0, 0, 0, 0, 0, 0, 0, []) : xm_I) := rfl
theorem r_X3_forget_10 : co_X3_forget[10]? = some ((18, .getfield 18, 342, 3, 2, 2, 0, 0, []) : xm_I) := rfl
theorem r_X3_forget_11 : co_X3_forget[11]? = some ((21, .iload_n 1, 0, 0, 0, 0, 0, 0, []) : xm_I) := rfl
theorem r_X3_forget_12 : co_X3_forget[12]? = some ((22, .iaload, 0, 0, 0, 0, 0, 0, []) : xm_I) := rfl
theorem r_X3_forget_13 : co_X3_forget[13]? = some ((23, .invokestatic 70, 893, 83, 1, 0, 0, 0, []) : xm_I) := rfl
theorem r_X3_forget_14 : co_X3_forget[14]? = some ((26, .istore_n 2, 0, 0, 0, 0, 0, 0, []) : xm_I) := rfl
theorem r_X3_forget_15 : co_X3_forget[15]? = some ((27, .iload_n 2, 0, 0, 0, 0, 0, 0, []) : xm_I) := rfl
theorem r_X3_forget_16 : co_X3_forget[16]? = some ((28, .iconst (-1), 0, 0, 0, 0, (-1), 0, []) : xm_I) := rfl
theorem r_X3_forget_17 : co_X3_forget[17]? = some ((29, .if_icmp .eq 10, 0, 0, 23, 0, 0, 0, []) : xm_I) := rfl
theorem r_X3_forget_18 : co_X3_forget[18]? = some ((32, .aload_n 0, 0, 0, 0, 0, 0, 0, []) : xm_I) := rfl
theorem r_X3_forget_19 : co_X3_forget[19]? = some ((33, .getfield 9, 340, 3, 0, 2, 0, 0, []) : xm_I) := rfl
theorem r_X3_forget_20 : co_X3_forget[20]? = some ((36, .iload_n 2, 0, 0, 0, 0, 0, 0, []) : xm_I) := rfl
theorem r_X3_forget_21 : co_X3_forget[21]? = some ((37, .iconst 0, 0, 0, 0, 0, 0, 0, []) : xm_I) := rfl
theorem r_X3_forget_22 : co_X3_forget[22]? = some ((38, .iastore, 0, 0, 0, 0, 0, 0, []) : xm_I) := rfl
theorem r_X3_forget_23 : co_X3_forget[23]? = some ((39, .iinc 1 1, 0, 0, 0, 0, 1, 0, []) : xm_I) := rfl
theorem r_X3_forget_24 : co_X3_forget[24]? = some ((42, .goto (-40), 0, 0, 2, 0, 0, 0, []) : xm_I) := rfl
theorem r_X3_forget_25 : co_X3_forget[25]? = some ((45, .aload_n 0, 0, 0, 0, 0, 0, 0, []) : xm_I) := rfl
theorem r_X3_forget_26 : co_X3_forget[26]? = some ((46, .getfield 15, 341, 3, 1, 2, 0, 0, []) : xm_I) := rfl
theorem r_X3_forget_27 : co_X3_forget[27]? = some ((49, .iconst 0, 0, 0, 0, 0, 0, 0, []) : xm_I) := rfl
theorem r_X3_forget_28 : co_X3_forget[28]? = some ((50, .invokestatic 74, 898, 6, 2, 0, 0, 0, []) : xm_I) := rfl
theorem r_X3_forget_29 : co_X3_forget[29]? = some ((53, .aload_n 0, 0, 0, 0, 0, 0, 0, []) : xm_I) := rfl
theorem r_X3_forget_30 : co_X3_forget[30]? = some ((54, .iconst 0, 0, 0, 0, 0, 0, 0, []) : xm_I) := rfl
theorem r_X3_forget_31 : co_X3_forget[31]? = some ((55, .putfield 46, 354, 3, 14, 0, 0, 0, []) : xm_I) := rfl
theorem r_X3_forget_32 : co_X3_forget[32]? = some ((58, .aload_n 0, 0, 0, 0, 0, 0, 0, []) : xm_I) := rfl
theorem r_X3_forget_33 : co_X3_forget[33]? = some ((59, .iconst 0, 0, 0, 0, 0, 0, 0, []) : xm_I) := rfl
theorem r_X3_forget_34 : co_X3_forget[34]? = some ((60, .putfield 80, 356, 3, 15, 0, 0, 0, []) : xm_I) := rfl
theorem r_X3_forget_35 : co_X3_forget[35]? = some ((63, .return_, 0, 0, 0, 0, 0, 0, []) : xm_I) := rfl
theorem p_X3_forget_0_0 {X : xm_X} {P : List xm_M} {d : Nat} {h : xm_H} {l0 : Nat} {ro : Option Value} {ho : xm_H}  (K : xm_E X P d co_X3_forget 2 [some (.ref l0), some (.int (0 : Int32)), none] [] h ro ho) : xm_E X P d co_X3_forget 0 [some (.ref l0), none, none] [] h ro ho := by
  refine xm_E_s r_X3_forget_0 rfl rfl ?_
  refine xm_E_s (ls1 := [some (.ref l0), some (.int (0 : Int32)), none]) r_X3_forget_1 rfl rfl ?_
  exact K
theorem p_X3_forget_2_0 {X : xm_X} {P : List xm_M} {d : Nat} {h : xm_H} {l0 : Nat} {l1 : Int32} {l2 : Option Value} {v0 : Nat} {h1 : xm_H} (q0 : X.1[l0]? = some (.inr 3)) (q1 : h.1 l0 14 ≤ l1) (q2 : h.2.2 l0 1 = some v0) (q3 : xm_V X P d 6 [.ref v0, .int (0 : Int32)] h none h1) : xm_E X P d co_X3_forget 2 [some (.ref l0), some (.int l1), l2] [] h none (xm_si (xm_si h1 l0 14 (0 : Int32)) l0 15 (0 : Int32)) := by
  refine xm_E_s r_X3_forget_2 rfl rfl ?_
  refine xm_E_s r_X3_forget_3 rfl rfl ?_
  refine xm_E_s r_X3_forget_4 rfl (xm_T_gi rfl q0 rfl (Or.inl rfl)) ?_
  refine xm_E_s r_X3_forget_5 rfl rfl ?_
  refine xm_E_t q1 ?_
  refine xm_E_s r_X3_forget_25 rfl rfl ?_
  refine xm_E_s r_X3_forget_26 rfl (xm_T_gr rfl q0 rfl rfl q2) ?_
  refine xm_E_s r_X3_forget_27 rfl rfl ?_
  refine xm_E_cs [.ref v0, .int (0 : Int32)] [] r_X3_forget_28 rfl rfl rfl (Nat.le_of_ble_eq_true rfl) rfl q3 ?_
  refine xm_E_s r_X3_forget_29 rfl rfl ?_
  refine xm_E_s r_X3_forget_30 rfl rfl ?_
  refine xm_E_s r_X3_forget_31 rfl (xm_T_pi rfl q0 rfl rfl) ?_
  refine xm_E_s r_X3_forget_32 rfl rfl ?_
  refine xm_E_s r_X3_forget_33 rfl rfl ?_
  refine xm_E_s r_X3_forget_34 rfl (xm_T_pi rfl q0 rfl rfl) ?_
  exact xm_E_ret r_X3_forget_35 rfl
theorem p_X3_forget_2_1 {X : xm_X} {P : List xm_M} {d : Nat} {h : xm_H} {l0 : Nat} {l1 : Int32} {l2 : Option Value} {v0 : Nat} {h1 : xm_H} (q0 : X.1[l0]? = some (.inr 3)) (q1 : ¬ (h.1 l0 14 ≤ l1)) (q2 : (640 : Int32) ≤ l1) (q3 : h.2.2 l0 1 = some v0) (q4 : xm_V X P d 6 [.ref v0, .int (0 : Int32)] h none h1) : xm_E X P d co_X3_forget 2 [some (.ref l0), some (.int l1), l2] [] h none (xm_si (xm_si h1 l0 14 (0 : Int32)) l0 15 (0 : Int32)) := by
  refine xm_E_s r_X3_forget_2 rfl rfl ?_
  refine xm_E_s r_X3_forget_3 rfl rfl ?_
  refine xm_E_s r_X3_forget_4 rfl (xm_T_gi rfl q0 rfl (Or.inl rfl)) ?_
  refine xm_E_s r_X3_forget_5 rfl rfl ?_
  refine xm_E_f q1 ?_
  refine xm_E_s r_X3_forget_6 rfl rfl ?_
  refine xm_E_s r_X3_forget_7 rfl rfl ?_
  refine xm_E_s r_X3_forget_8 rfl rfl ?_
  refine xm_E_t q2 ?_
  refine xm_E_s r_X3_forget_25 rfl rfl ?_
  refine xm_E_s r_X3_forget_26 rfl (xm_T_gr rfl q0 rfl rfl q3) ?_
  refine xm_E_s r_X3_forget_27 rfl rfl ?_
  refine xm_E_cs [.ref v0, .int (0 : Int32)] [] r_X3_forget_28 rfl rfl rfl (Nat.le_of_ble_eq_true rfl) rfl q4 ?_
  refine xm_E_s r_X3_forget_29 rfl rfl ?_
  refine xm_E_s r_X3_forget_30 rfl rfl ?_
  refine xm_E_s r_X3_forget_31 rfl (xm_T_pi rfl q0 rfl rfl) ?_
  refine xm_E_s r_X3_forget_32 rfl rfl ?_
  refine xm_E_s r_X3_forget_33 rfl rfl ?_
  refine xm_E_s r_X3_forget_34 rfl (xm_T_pi rfl q0 rfl rfl) ?_
  exact xm_E_ret r_X3_forget_35 rfl
theorem p_X3_forget_2_2 {X : xm_X} {P : List xm_M} {d : Nat} {h : xm_H} {l0 : Nat} {l1 : Int32} {l2 : Option Value} {v0 : Nat} {n1 : Nat} {h2 : xm_H} {r2 : Int32} {ro : Option Value} {ho : xm_H} (q0 : X.1[l0]? = some (.inr 3)) (q1 : ¬ (h.1 l0 14 ≤ l1)) (q2 : ¬ ((640 : Int32) ≤ l1)) (q3 : h.2.2 l0 2 = some v0) (q4 : X.1[v0]? = some (.inl (0, n1))) (q5 : ¬ (l1 < 0 ∨ n1 ≤ l1.toNatClampNeg)) (q6 : xm_V X P d 83 [.int (h.1 v0 l1.toNatClampNeg)] h (some (.int r2)) h2) (q7 : r2 = (-1 : Int32)) (K : xm_E X P d co_X3_forget 2 [some (.ref l0), some (.int (l1 + (1 : Int32))), some (.int r2)] [] h2 ro ho) : xm_E X P d co_X3_forget 2 [some (.ref l0), some (.int l1), l2] [] h ro ho := by
  refine xm_E_s r_X3_forget_2 rfl rfl ?_
  refine xm_E_s r_X3_forget_3 rfl rfl ?_
  refine xm_E_s r_X3_forget_4 rfl (xm_T_gi rfl q0 rfl (Or.inl rfl)) ?_
  refine xm_E_s r_X3_forget_5 rfl rfl ?_
  refine xm_E_f q1 ?_
  refine xm_E_s r_X3_forget_6 rfl rfl ?_
  refine xm_E_s r_X3_forget_7 rfl rfl ?_
  refine xm_E_s r_X3_forget_8 rfl rfl ?_
  refine xm_E_f q2 ?_
  refine xm_E_s r_X3_forget_9 rfl rfl ?_
  refine xm_E_s r_X3_forget_10 rfl (xm_T_gr rfl q0 rfl rfl q3) ?_
  refine xm_E_s r_X3_forget_11 rfl rfl ?_
  refine xm_E_s r_X3_forget_12 rfl (xm_T_iald rfl q4 (by decide) q5) ?_
  refine xm_E_cs [.int (h.1 v0 l1.toNatClampNeg)] [] r_X3_forget_13 rfl rfl rfl (Nat.le_of_ble_eq_true rfl) rfl q6 ?_
  refine xm_E_s (ls1 := [some (.ref l0), some (.int l1), some (.int r2)]) r_X3_forget_14 rfl rfl ?_
  refine xm_E_s r_X3_forget_15 rfl rfl ?_
  refine xm_E_s r_X3_forget_16 rfl rfl ?_
  refine xm_E_s r_X3_forget_17 rfl rfl ?_
  refine xm_E_t q7 ?_
  refine xm_E_s (ls1 := [some (.ref l0), some (.int (l1 + (1 : Int32))), some (.int r2)]) r_X3_forget_23 rfl rfl ?_
  refine xm_E_s r_X3_forget_24 rfl rfl ?_
  exact K
theorem p_X3_forget_2_3 {X : xm_X} {P : List xm_M} {d : Nat} {h : xm_H} {l0 : Nat} {l1 : Int32} {l2 : Option Value} {v0 : Nat} {n1 : Nat} {h2 : xm_H} {r2 : Int32} {v3 : Nat} {n4 : Nat} {ro : Option Value} {ho : xm_H} (q0 : X.1[l0]? = some (.inr 3)) (q1 : ¬ (h.1 l0 14 ≤ l1)) (q2 : ¬ ((640 : Int32) ≤ l1)) (q3 : h.2.2 l0 2 = some v0) (q4 : X.1[v0]? = some (.inl (0, n1))) (q5 : ¬ (l1 < 0 ∨ n1 ≤ l1.toNatClampNeg)) (q6 : xm_V X P d 83 [.int (h.1 v0 l1.toNatClampNeg)] h (some (.int r2)) h2) (q7 : ¬ (r2 = (-1 : Int32))) (q8 : h2.2.2 l0 0 = some v3) (q9 : X.1[v3]? = some (.inl (0, n4))) (q10 : ¬ (r2 < 0 ∨ n4 ≤ r2.toNatClampNeg)) (K : xm_E X P d co_X3_forget 2 [some (.ref l0), some (.int (l1 + (1 : Int32))), some (.int r2)] [] (xm_si h2 v3 r2.toNatClampNeg (0 : Int32)) ro ho) : xm_E X P d co_X3_forget 2 [some (.ref l0), some (.int l1), l2] [] h ro ho := by
  refine xm_E_s r_X3_forget_2 rfl rfl ?_
  refine xm_E_s r_X3_forget_3 rfl rfl ?_
  refine xm_E_s r_X3_forget_4 rfl (xm_T_gi rfl q0 rfl (Or.inl rfl)) ?_
  refine xm_E_s r_X3_forget_5 rfl rfl ?_
  refine xm_E_f q1 ?_
  refine xm_E_s r_X3_forget_6 rfl rfl ?_
  refine xm_E_s r_X3_forget_7 rfl rfl ?_
  refine xm_E_s r_X3_forget_8 rfl rfl ?_
  refine xm_E_f q2 ?_
  refine xm_E_s r_X3_forget_9 rfl rfl ?_
  refine xm_E_s r_X3_forget_10 rfl (xm_T_gr rfl q0 rfl rfl q3) ?_
  refine xm_E_s r_X3_forget_11 rfl rfl ?_
  refine xm_E_s r_X3_forget_12 rfl (xm_T_iald rfl q4 (by decide) q5) ?_
  refine xm_E_cs [.int (h.1 v0 l1.toNatClampNeg)] [] r_X3_forget_13 rfl rfl rfl (Nat.le_of_ble_eq_true rfl) rfl q6 ?_
  refine xm_E_s (ls1 := [some (.ref l0), some (.int l1), some (.int r2)]) r_X3_forget_14 rfl rfl ?_
  refine xm_E_s r_X3_forget_15 rfl rfl ?_
  refine xm_E_s r_X3_forget_16 rfl rfl ?_
  refine xm_E_s r_X3_forget_17 rfl rfl ?_
  refine xm_E_f q7 ?_
  refine xm_E_s r_X3_forget_18 rfl rfl ?_
  refine xm_E_s r_X3_forget_19 rfl (xm_T_gr rfl q0 rfl rfl q8) ?_
  refine xm_E_s r_X3_forget_20 rfl rfl ?_
  refine xm_E_s r_X3_forget_21 rfl rfl ?_
  refine xm_E_s r_X3_forget_22 rfl (xm_T_asi rfl q9 q10) ?_
  refine xm_E_s (ls1 := [some (.ref l0), some (.int (l1 + (1 : Int32))), some (.int r2)]) r_X3_forget_23 rfl rfl ?_
  refine xm_E_s r_X3_forget_24 rfl rfl ?_
  exact K
theorem r_X3_cellOf_0 : co_X3_cellOf[0]? = some ((0, .iload_n 0, 0, 0, 0, 0, 0, 0, []) : xm_I) := rfl
theorem r_X3_cellOf_1 : co_X3_cellOf[1]? = some ((1, .invokestatic 83, 896, 38, 1, 0, 0, 0, []) : xm_I) := rfl
theorem r_X3_cellOf_2 : co_X3_cellOf[2]? = some ((4, .istore_n 1, 0, 0, 0, 0, 0, 0, []) : xm_I) := rfl
theorem r_X3_cellOf_3 : co_X3_cellOf[3]? = some ((5, .iload_n 0, 0, 0, 0, 0, 0, 0, []) : xm_I) := rfl
theorem r_X3_cellOf_4 : co_X3_cellOf[4]? = some ((6, .invokestatic 108, 897, 39, 1, 0, 0, 0, []) : xm_I) := rfl
theorem r_X3_cellOf_5 : co_X3_cellOf[5]? = some ((9, .istore_n 2, 0, 0, 0, 0, 0, 0, []) : xm_I) := rfl
theorem r_X3_cellOf_6 : co_X3_cellOf[6]? = some ((10, .iload_n 1, 0, 0, 0, 0, 0, 0, []) : xm_I) := rfl
theorem r_X3_cellOf_7 : co_X3_cellOf[7]? = some ((11, .iconst 1, 0, 0, 0, 0, 1, 0, []) : xm_I) := rfl
theorem r_X3_cellOf_8 : co_X3_cellOf[8]? = some ((12, .if_icmp .lt 20, 0, 0, 18, 0, 0, 0, []) : xm_I) := rfl
theorem r_X3_cellOf_9 : co_X3_cellOf[9]? = some ((15, .iload_n 1, 0, 0, 0, 0, 0, 0, []) : xm_I) := rfl
theorem r_X3_cellOf_10 : co_X3_cellOf[10]? = some ((16, .bipush 48, 0, 0, 0, 0, 48, 0, []) : xm_I) := rfl
theorem r_X3_cellOf_11 : co_X3_cellOf[11]? = some ((18, .if_icmp .gt 14, 0, 0, 18, 0, 0, 0, []) : xm_I) := rfl
theorem r_X3_cellOf_12 : co_X3_cellOf[12]? = some ((21, .iload_n 2, 0, 0, 0, 0, 0, 0, []) : xm_I) := rfl
theorem r_X3_cellOf_13 : co_X3_cellOf[13]? = some ((22, .iconst 1, 0, 0, 0, 0, 1, 0, []) : xm_I) := rfl
theorem r_X3_cellOf_14 : co_X3_cellOf[14]? = some ((23, .if_icmp .lt 9, 0, 0, 18, 0, 0, 0, []) : xm_I) := rfl
theorem r_X3_cellOf_15 : co_X3_cellOf[15]? = some ((26, .iload_n 2, 0, 0, 0, 0, 0, 0, []) : xm_I) := rfl
theorem r_X3_cellOf_16 : co_X3_cellOf[16]? = some ((27, .bipush 48, 0, 0, 0, 0, 48, 0, []) : xm_I) := rfl
theorem r_X3_cellOf_17 : co_X3_cellOf[17]? = some ((29, .if_icmp .le 5, 0, 0, 20, 0, 0, 0, []) : xm_I) := rfl
theorem r_X3_cellOf_18 : co_X3_cellOf[18]? = some ((32, .iconst (-1), 0, 0, 0, 0, (-1), 0, []) : xm_I) := rfl
theorem r_X3_cellOf_19 : co_X3_cellOf[19]? = some ((33, .ireturn, 0, 0, 0, 0, 0, 0, []) : xm_I) := rfl
theorem r_X3_cellOf_20 : co_X3_cellOf[20]? = some ((34, .iload_n 1, 0, 0, 0, 0, 0, 0, []) : xm_I) := rfl
theorem r_X3_cellOf_21 : co_X3_cellOf[21]? = some ((35, .iconst 1, 0, 0, 0, 0, 1, 0, []) : xm_I) := rfl
theorem r_X3_cellOf_22 : co_X3_cellOf[22]? = some ((36, .isub, 0, 0, 0, 0, 0, 0, []) : xm_I) := rfl
theorem r_X3_cellOf_23 : co_X3_cellOf[23]? = some ((37, .bipush 48, 0, 0, 0, 0, 48, 0, []) : xm_I) := rfl
theorem r_X3_cellOf_24 : co_X3_cellOf[24]? = some ((39, .imul, 0, 0, 0, 0, 0, 0, []) : xm_I) := rfl
theorem r_X3_cellOf_25 : co_X3_cellOf[25]? = some ((40, .iload_n 2, 0, 0, 0, 0, 0, 0, []) : xm_I) := rfl
theorem r_X3_cellOf_26 : co_X3_cellOf[26]? = some ((41, .iadd, 0, 0, 0, 0, 0, 0, []) : xm_I) := rfl
theorem r_X3_cellOf_27 : co_X3_cellOf[27]? = some ((42, .iconst 1, 0, 0, 0, 0, 1, 0, []) : xm_I) := rfl
theorem r_X3_cellOf_28 : co_X3_cellOf[28]? = some ((43, .isub, 0, 0, 0, 0, 0, 0, []) : xm_I) := rfl
theorem r_X3_cellOf_29 : co_X3_cellOf[29]? = some ((44, .ireturn, 0, 0, 0, 0, 0, 0, []) : xm_I) := rfl
theorem p_X3_cellOf_0_0 {X : xm_X} {P : List xm_M} {d : Nat} {h : xm_H} {l0 : Int32} {h0 : xm_H} {r0 : Int32} {h1 : xm_H} {r1 : Int32} (q0 : xm_V X P d 38 [.int l0] h (some (.int r0)) h0) (q1 : xm_V X P d 39 [.int l0] h0 (some (.int r1)) h1) (q2 : r0 < (1 : Int32)) : xm_E X P d co_X3_cellOf 0 [some (.int l0), none, none] [] h (some (.int (-1 : Int32))) h1 := by
  refine xm_E_s r_X3_cellOf_0 rfl rfl ?_
  refine xm_E_cs [.int l0] [] r_X3_cellOf_1 rfl rfl rfl (Nat.le_of_ble_eq_true rfl) rfl q0 ?_
  refine xm_E_s (ls1 := [some (.int l0), some (.int r0), none]) r_X3_cellOf_2 rfl rfl ?_
  refine xm_E_s r_X3_cellOf_3 rfl rfl ?_
  refine xm_E_cs [.int l0] [] r_X3_cellOf_4 rfl rfl rfl (Nat.le_of_ble_eq_true rfl) rfl q1 ?_
  refine xm_E_s (ls1 := [some (.int l0), some (.int r0), some (.int r1)]) r_X3_cellOf_5 rfl rfl ?_
  refine xm_E_s r_X3_cellOf_6 rfl rfl ?_
  refine xm_E_s r_X3_cellOf_7 rfl rfl ?_
  refine xm_E_s r_X3_cellOf_8 rfl rfl ?_
  refine xm_E_t q2 ?_
  refine xm_E_s r_X3_cellOf_18 rfl rfl ?_
  exact xm_E_iret r_X3_cellOf_19 rfl rfl
theorem p_X3_cellOf_0_1 {X : xm_X} {P : List xm_M} {d : Nat} {h : xm_H} {l0 : Int32} {h0 : xm_H} {r0 : Int32} {h1 : xm_H} {r1 : Int32} (q0 : xm_V X P d 38 [.int l0] h (some (.int r0)) h0) (q1 : xm_V X P d 39 [.int l0] h0 (some (.int r1)) h1) (q2 : ¬ (r0 < (1 : Int32))) (q3 : (48 : Int32) < r0) : xm_E X P d co_X3_cellOf 0 [some (.int l0), none, none] [] h (some (.int (-1 : Int32))) h1 := by
  refine xm_E_s r_X3_cellOf_0 rfl rfl ?_
  refine xm_E_cs [.int l0] [] r_X3_cellOf_1 rfl rfl rfl (Nat.le_of_ble_eq_true rfl) rfl q0 ?_
  refine xm_E_s (ls1 := [some (.int l0), some (.int r0), none]) r_X3_cellOf_2 rfl rfl ?_
  refine xm_E_s r_X3_cellOf_3 rfl rfl ?_
  refine xm_E_cs [.int l0] [] r_X3_cellOf_4 rfl rfl rfl (Nat.le_of_ble_eq_true rfl) rfl q1 ?_
  refine xm_E_s (ls1 := [some (.int l0), some (.int r0), some (.int r1)]) r_X3_cellOf_5 rfl rfl ?_
  refine xm_E_s r_X3_cellOf_6 rfl rfl ?_
  refine xm_E_s r_X3_cellOf_7 rfl rfl ?_
  refine xm_E_s r_X3_cellOf_8 rfl rfl ?_
  refine xm_E_f q2 ?_
  refine xm_E_s r_X3_cellOf_9 rfl rfl ?_
  refine xm_E_s r_X3_cellOf_10 rfl rfl ?_
  refine xm_E_s r_X3_cellOf_11 rfl rfl ?_
  refine xm_E_t q3 ?_
  refine xm_E_s r_X3_cellOf_18 rfl rfl ?_
  exact xm_E_iret r_X3_cellOf_19 rfl rfl
theorem p_X3_cellOf_0_2 {X : xm_X} {P : List xm_M} {d : Nat} {h : xm_H} {l0 : Int32} {h0 : xm_H} {r0 : Int32} {h1 : xm_H} {r1 : Int32} (q0 : xm_V X P d 38 [.int l0] h (some (.int r0)) h0) (q1 : xm_V X P d 39 [.int l0] h0 (some (.int r1)) h1) (q2 : ¬ (r0 < (1 : Int32))) (q3 : ¬ ((48 : Int32) < r0)) (q4 : r1 < (1 : Int32)) : xm_E X P d co_X3_cellOf 0 [some (.int l0), none, none] [] h (some (.int (-1 : Int32))) h1 := by
  refine xm_E_s r_X3_cellOf_0 rfl rfl ?_
  refine xm_E_cs [.int l0] [] r_X3_cellOf_1 rfl rfl rfl (Nat.le_of_ble_eq_true rfl) rfl q0 ?_
  refine xm_E_s (ls1 := [some (.int l0), some (.int r0), none]) r_X3_cellOf_2 rfl rfl ?_
  refine xm_E_s r_X3_cellOf_3 rfl rfl ?_
  refine xm_E_cs [.int l0] [] r_X3_cellOf_4 rfl rfl rfl (Nat.le_of_ble_eq_true rfl) rfl q1 ?_
  refine xm_E_s (ls1 := [some (.int l0), some (.int r0), some (.int r1)]) r_X3_cellOf_5 rfl rfl ?_
  refine xm_E_s r_X3_cellOf_6 rfl rfl ?_
  refine xm_E_s r_X3_cellOf_7 rfl rfl ?_
  refine xm_E_s r_X3_cellOf_8 rfl rfl ?_
  refine xm_E_f q2 ?_
  refine xm_E_s r_X3_cellOf_9 rfl rfl ?_
  refine xm_E_s r_X3_cellOf_10 rfl rfl ?_
  refine xm_E_s r_X3_cellOf_11 rfl rfl ?_
  refine xm_E_f q3 ?_
  refine xm_E_s r_X3_cellOf_12 rfl rfl ?_
  refine xm_E_s r_X3_cellOf_13 rfl rfl ?_
  refine xm_E_s r_X3_cellOf_14 rfl rfl ?_
  refine xm_E_t q4 ?_
  refine xm_E_s r_X3_cellOf_18 rfl rfl ?_
  exact xm_E_iret r_X3_cellOf_19 rfl rfl
theorem p_X3_cellOf_0_3 {X : xm_X} {P : List xm_M} {d : Nat} {h : xm_H} {l0 : Int32} {h0 : xm_H} {r0 : Int32} {h1 : xm_H} {r1 : Int32} (q0 : xm_V X P d 38 [.int l0] h (some (.int r0)) h0) (q1 : xm_V X P d 39 [.int l0] h0 (some (.int r1)) h1) (q2 : ¬ (r0 < (1 : Int32))) (q3 : ¬ ((48 : Int32) < r0)) (q4 : ¬ (r1 < (1 : Int32))) (q5 : r1 ≤ (48 : Int32)) : xm_E X P d co_X3_cellOf 0 [some (.int l0), none, none] [] h (some (.int ((((r0 - (1 : Int32)) * (48 : Int32)) + r1) - (1 : Int32)))) h1 := by
  refine xm_E_s r_X3_cellOf_0 rfl rfl ?_
  refine xm_E_cs [.int l0] [] r_X3_cellOf_1 rfl rfl rfl (Nat.le_of_ble_eq_true rfl) rfl q0 ?_
  refine xm_E_s (ls1 := [some (.int l0), some (.int r0), none]) r_X3_cellOf_2 rfl rfl ?_
  refine xm_E_s r_X3_cellOf_3 rfl rfl ?_
  refine xm_E_cs [.int l0] [] r_X3_cellOf_4 rfl rfl rfl (Nat.le_of_ble_eq_true rfl) rfl q1 ?_
  refine xm_E_s (ls1 := [some (.int l0), some (.int r0), some (.int r1)]) r_X3_cellOf_5 rfl rfl ?_
  refine xm_E_s r_X3_cellOf_6 rfl rfl ?_
  refine xm_E_s r_X3_cellOf_7 rfl rfl ?_
  refine xm_E_s r_X3_cellOf_8 rfl rfl ?_
  refine xm_E_f q2 ?_
  refine xm_E_s r_X3_cellOf_9 rfl rfl ?_
  refine xm_E_s r_X3_cellOf_10 rfl rfl ?_
  refine xm_E_s r_X3_cellOf_11 rfl rfl ?_
  refine xm_E_f q3 ?_
  refine xm_E_s r_X3_cellOf_12 rfl rfl ?_
  refine xm_E_s r_X3_cellOf_13 rfl rfl ?_
  refine xm_E_s r_X3_cellOf_14 rfl rfl ?_
  refine xm_E_f q4 ?_
  refine xm_E_s r_X3_cellOf_15 rfl rfl ?_
  refine xm_E_s r_X3_cellOf_16 rfl rfl ?_
  refine xm_E_s r_X3_cellOf_17 rfl rfl ?_
  refine xm_E_t q5 ?_
  refine xm_E_s r_X3_cellOf_20 rfl rfl ?_
  refine xm_E_s r_X3_cellOf_21 rfl rfl ?_
  refine xm_E_s r_X3_cellOf_22 rfl rfl ?_
  refine xm_E_s r_X3_cellOf_23 rfl rfl ?_
  refine xm_E_s r_X3_cellOf_24 rfl rfl ?_
  refine xm_E_s r_X3_cellOf_25 rfl rfl ?_
  refine xm_E_s r_X3_cellOf_26 rfl rfl ?_
  refine xm_E_s r_X3_cellOf_27 rfl rfl ?_
  refine xm_E_s r_X3_cellOf_28 rfl rfl ?_
  exact xm_E_iret r_X3_cellOf_29 rfl rfl
theorem p_X3_cellOf_0_4 {X : xm_X} {P : List xm_M} {d : Nat} {h : xm_H} {l0 : Int32} {h0 : xm_H} {r0 : Int32} {h1 : xm_H} {r1 : Int32} (q0 : xm_V X P d 38 [.int l0] h (some (.int r0)) h0) (q1 : xm_V X P d 39 [.int l0] h0 (some (.int r1)) h1) (q2 : ¬ (r0 < (1 : Int32))) (q3 : ¬ ((48 : Int32) < r0)) (q4 : ¬ (r1 < (1 : Int32))) (q5 : ¬ (r1 ≤ (48 : Int32))) : xm_E X P d co_X3_cellOf 0 [some (.int l0), none, none] [] h (some (.int (-1 : Int32))) h1 := by
  refine xm_E_s r_X3_cellOf_0 rfl rfl ?_
  refine xm_E_cs [.int l0] [] r_X3_cellOf_1 rfl rfl rfl (Nat.le_of_ble_eq_true rfl) rfl q0 ?_
  refine xm_E_s (ls1 := [some (.int l0), some (.int r0), none]) r_X3_cellOf_2 rfl rfl ?_
  refine xm_E_s r_X3_cellOf_3 rfl rfl ?_
  refine xm_E_cs [.int l0] [] r_X3_cellOf_4 rfl rfl rfl (Nat.le_of_ble_eq_true rfl) rfl q1 ?_
  refine xm_E_s (ls1 := [some (.int l0), some (.int r0), some (.int r1)]) r_X3_cellOf_5 rfl rfl ?_
  refine xm_E_s r_X3_cellOf_6 rfl rfl ?_
  refine xm_E_s r_X3_cellOf_7 rfl rfl ?_
  refine xm_E_s r_X3_cellOf_8 rfl rfl ?_
  refine xm_E_f q2 ?_
  refine xm_E_s r_X3_cellOf_9 rfl rfl ?_
  refine xm_E_s r_X3_cellOf_10 rfl rfl ?_
  refine xm_E_s r_X3_cellOf_11 rfl rfl ?_
  refine xm_E_f q3 ?_
  refine xm_E_s r_X3_cellOf_12 rfl rfl ?_
  refine xm_E_s r_X3_cellOf_13 rfl rfl ?_
  refine xm_E_s r_X3_cellOf_14 rfl rfl ?_
  refine xm_E_f q4 ?_
  refine xm_E_s r_X3_cellOf_15 rfl rfl ?_
  refine xm_E_s r_X3_cellOf_16 rfl rfl ?_
  refine xm_E_s r_X3_cellOf_17 rfl rfl ?_
  refine xm_E_f q5 ?_
  refine xm_E_s r_X3_cellOf_18 rfl rfl ?_
  exact xm_E_iret r_X3_cellOf_19 rfl rfl
theorem r_X3_placeOf_0 : co_X3_placeOf[0]? = some ((0, .aload_n 0, 0, 0, 0, 0, 0, 0, []) : xm_I) := rfl
theorem r_X3_placeOf_1 : co_X3_placeOf[1]? = some ((1, .iload_n 1, 0, 0, 0, 0, 0, 0, []) : xm_I) := rfl
theorem r_X3_placeOf_2 : co_X3_placeOf[2]? = some ((2, .iload_n 1, 0, 0, 0, 0, 0, 0, []) : xm_I) := rfl
theorem r_X3_placeOf_3 : co_X3_placeOf[3]? = some ((3, .invokestatic 70, 893, 83, 1, 0, 0, 0, []) : xm_I) := rfl
theorem r_X3_placeOf_4 : co_X3_placeOf[4]? = some ((6, .invokevirtual 96, 903, 85, 3, 3, 0, 0, []) : xm_I) := rfl
theorem r_X3_placeOf_5 : co_X3_placeOf[5]? = some ((9, .istore 4, 0, 0, 0, 0, 0, 0, []) : xm_I) := rfl
theorem r_X3_placeOf_6 : co_X3_placeOf[6]? = some ((11, .iload 4, 0, 0, 0, 0, 0, 0, []) : xm_I) := rfl
theorem r_X3_placeOf_7 : co_X3_placeOf[7]? = some ((13, .iconst (-1), 0, 0, 0, 0, (-1), 0, []) : xm_I) := rfl
theorem r_X3_placeOf_8 : co_X3_placeOf[8]? = some ((14, .if_icmp .eq 23, 0, 0, 21, 0, 0, 0, []) : xm_I) := rfl
theorem r_X3_placeOf_9 : co_X3_placeOf[9]? = some ((17, .aload_n 0, 0, 0, 0, 0, 0, 0, []) : xm_I) := rfl
theorem r_X3_placeOf_10 : co_X3_placeOf[10]? = some ((18, .getfield 15, 341, 3, 1, 2, 0, 0, []) : xm_I) := rfl
theorem r_X3_placeOf_11 : co_X3_placeOf[11]? = some ((21, .iload 4, 0, 0, 0, 0, 0, 0, []) : xm_I) := rfl
theorem r_X3_placeOf_12 : co_X3_placeOf[12]? = some ((23, .iaload, 0, 0, 0, 0, 0, 0, []) : xm_I) := rfl
theorem r_X3_placeOf_13 : co_X3_placeOf[13]? = some ((24, .ifCond .le 13, 0, 0, 21, 0, 0, 0, []) : xm_I) := rfl
theorem r_X3_placeOf_14 : co_X3_placeOf[14]? = some ((27, .aload_n 0, 0, 0, 0, 0, 0, 0, []) : xm_I) := rfl
theorem r_X3_placeOf_15 : co_X3_placeOf[15]? = some ((28, .getfield 15, 341, 3, 1, 2, 0, 0, []) : xm_I) := rfl
theorem r_X3_placeOf_16 : co_X3_placeOf[16]? = some ((31, .iload 4, 0, 0, 0, 0, 0, 0, []) : xm_I) := rfl
theorem r_X3_placeOf_17 : co_X3_placeOf[17]? = some ((33, .iaload, 0, 0, 0, 0, 0, 0, []) : xm_I) := rfl
theorem r_X3_placeOf_18 : co_X3_placeOf[18]? = some ((34, .iconst 1, 0, 0, 0, 0, 1, 0, []) : xm_I) := rfl
theorem r_X3_placeOf_19 : co_X3_placeOf[19]? = some ((35, .isub, 0, 0, 0, 0, 0, 0, []) : xm_I) := rfl
theorem r_X3_placeOf_20 : co_X3_placeOf[20]? = some ((36, .ireturn, 0, 0, 0, 0, 0, 0, []) : xm_I) := rfl
theorem r_X3_placeOf_21 : co_X3_placeOf[21]? = some ((37, .aload_n 0, 0, 0, 0, 0, 0, 0, []) : xm_I) := rfl
theorem r_X3_placeOf_22 : co_X3_placeOf[22]? = some ((38, .getfield 46, 354, 3, 14, 0, 0, 0, []) : xm_I) := rfl
theorem r_X3_placeOf_23 : co_X3_placeOf[23]? = some ((41, .sipush 640, 0, 0, 0, 0, 640, 0, []) : xm_I) := rfl
theorem r_X3_placeOf_24 : co_X3_placeOf[24]? = some ((44, .if_icmp .lt 5, 0, 0, 27, 0, 0, 0, []) : xm_I) := rfl
theorem r_X3_placeOf_25 : co_X3_placeOf[25]? = some ((47, .iconst (-1), 0, 0, 0, 0, (-1), 0, []) : xm_I) := rfl
theorem r_X3_placeOf_26 : co_X3_placeOf[26]? = some ((48, .ireturn, 0, 0, 0, 0, 0, 0, []) : xm_I) := rfl
theorem r_X3_placeOf_27 : co_X3_placeOf[27]? = some ((49, .aload_n 0, 0, 0, 0, 0, 0, 0, []) : xm_I) := rfl
theorem r_X3_placeOf_28 : co_X3_placeOf[28]? = some ((50, .getfield 46, 354, 3, 14, 0, 0, 0, []) : xm_I) := rfl
theorem r_X3_placeOf_29 : co_X3_placeOf[29]? = some ((53, .istore 5, 0, 0, 0, 0, 0, 0, []) : xm_I) := rfl
theorem r_X3_placeOf_30 : co_X3_placeOf[30]? = some ((55, .aload_n 0, 0, 0, 0, 0, 0, 0, []) : xm_I) := rfl
theorem r_X3_placeOf_31 : co_X3_placeOf[31]? = some ((56, .dup, 0, 0, 0, 0, 0, 0, []) : xm_I) := rfl
theorem r_X3_placeOf_32 : co_X3_placeOf[32]? = some ((57, .getfield 46, 354, 3, 14, 0, 0, 0, []) : xm_I) := rfl
theorem r_X3_placeOf_33 : co_X3_placeOf[33]? = some ((60, .iconst 1, 0, 0, 0, 0, 1, 0, []) : xm_I) := rfl
theorem r_X3_placeOf_34 : co_X3_placeOf[34]? = some ((61, .iadd, 0, 0, 0, 0, 0, 0, []) : xm_I) := rfl
theorem r_X3_placeOf_35 : co_X3_placeOf[35]? = some ((62, .putfield 46, 354, 3, 14, 0, 0, 0, []) : xm_I) := rfl
theorem r_X3_placeOf_36 : co_X3_placeOf[36]? = some ((65, .aload_n 0, 0, 0, 0, 0, 0, 0, []) : xm_I) := rfl
theorem r_X3_placeOf_37 : co_X3_placeOf[37]? = some ((66, .getfield 18, 342, 3, 2, 2, 0, 0, []) : xm_I) := rfl
theorem r_X3_placeOf_38 : co_X3_placeOf[38]? = some ((69, .iload 5, 0, 0, 0, 0, 0, 0, []) : xm_I) := rfl
theorem r_X3_placeOf_39 : co_X3_placeOf[39]? = some ((71, .iload_n 1, 0, 0, 0, 0, 0, 0, []) : xm_I) := rfl
theorem r_X3_placeOf_40 : co_X3_placeOf[40]? = some ((72, .iastore, 0, 0, 0, 0, 0, 0, []) : xm_I) := rfl
theorem r_X3_placeOf_41 : co_X3_placeOf[41]? = some ((73, .aload_n 0, 0, 0, 0, 0, 0, 0, []) : xm_I) := rfl
theorem r_X3_placeOf_42 : co_X3_placeOf[42]? = some ((74, .getfield 24, 344, 3, 4, 2, 0, 0, []) : xm_I) := rfl
theorem r_X3_placeOf_43 : co_X3_placeOf[43]? = some ((77, .iload 5, 0, 0, 0, 0, 0, 0, []) : xm_I) := rfl
theorem r_X3_placeOf_44 : co_X3_placeOf[44]? = some ((79, .iload_n 2, 0, 0, 0, 0, 0, 0, []) : xm_I) := rfl
theorem r_X3_placeOf_45 : co_X3_placeOf[45]? = some ((80, .iastore, 0, 0, 0, 0, 0, 0, []) : xm_I) := rfl
theorem r_X3_placeOf_46 : co_X3_placeOf[46]? = some ((81, .aload_n 0, 0, 0, 0, 0, 0, 0, []) : xm_I) := rfl
theorem r_X3_placeOf_47 : co_X3_placeOf[47]? = some ((82, .getfield 27, 345, 3, 5, 2, 0, 0, []) : xm_I) := rfl
theorem r_X3_placeOf_48 : co_X3_placeOf[48]? = some ((85, .iload 5, 0, 0, 0, 0, 0, 0, []) : xm_I) := rfl
theorem r_X3_placeOf_49 : co_X3_placeOf[49]? = some ((87, .iload_n 3, 0, 0, 0, 0, 0, 0, []) : xm_I) := rfl
theorem r_X3_placeOf_50 : co_X3_placeOf[50]? = some ((88, .iastore, 0, 0, 0, 0, 0, 0, []) : xm_I) := rfl
theorem r_X3_placeOf_51 : co_X3_placeOf[51]? = some ((89, .aload_n 0, 0, 0, 0, 0, 0, 0, []) : xm_I) := rfl
theorem r_X3_placeOf_52 : co_X3_placeOf[52]? = some ((90, .getfield 30, 346, 3, 6, 2, 0, 0, []) : xm_I) := rfl
theorem r_X3_placeOf_53 : co_X3_placeOf[53]? = some ((93, .iload 5, 0, 0, 0, 0, 0, 0, []) : xm_I) := rfl
theorem r_X3_placeOf_54 : co_X3_placeOf[54]? = some ((95, .iload_n 2, 0, 0, 0, 0, 0, 0, []) : xm_I) := rfl
theorem r_X3_placeOf_55 : co_X3_placeOf[55]? = some ((96, .ifCond .lt 20, 0, 0, 66, 0, 0, 0, []) : xm_I) := rfl
theorem r_X3_placeOf_56 : co_X3_placeOf[56]? = some ((99, .iload_n 2, 0, 0, 0, 0, 0, 0, []) : xm_I) := rfl
theorem r_X3_placeOf_57 : co_X3_placeOf[57]? = some ((100, .iload 5, 0, 0, 0, 0, 0, 0, []) : xm_I) := rfl
theorem r_X3_placeOf_58 : co_X3_placeOf[58]? = some ((102, .if_icmp .ge 14, 0, 0, 66, 0, 0, 0, []) : xm_I) := rfl
theorem r_X3_placeOf_59 : co_X3_placeOf[59]? = some ((105, .aload_n 0, 0, 0, 0, 0, 0, 0, []) : xm_I) := rfl
theorem r_X3_placeOf_60 : co_X3_placeOf[60]? = some ((106, .getfield 30, 346, 3, 6, 2, 0, 0, []) : xm_I) := rfl
theorem r_X3_placeOf_61 : co_X3_placeOf[61]? = some ((109, .iload_n 2, 0, 0, 0, 0, 0, 0, []) : xm_I) := rfl
theorem r_X3_placeOf_62 : co_X3_placeOf[62]? = some ((110, .iaload, 0, 0, 0, 0, 0, 0, []) : xm_I) := rfl
theorem r_X3_placeOf_63 : co_X3_placeOf[63]? = some ((111, .iconst 1, 0, 0, 0, 0, 1, 0, []) : xm_I) := rfl
theorem r_X3_placeOf_64 : co_X3_placeOf[64]? = some ((112, .iadd, 0, 0, 0, 0, 0, 0, []) : xm_I) := rfl
theorem r_X3_placeOf_65 : co_X3_placeOf[65]? = some ((113, .goto 4, 0, 0, 67, 0, 0, 0, []) : xm_I) := rfl
theorem r_X3_placeOf_66 : co_X3_placeOf[66]? = some ((116, .iconst 0, 0, 0, 0, 0, 0, 0, []) : xm_I) := rfl
theorem r_X3_placeOf_67 : co_X3_placeOf[67]? = some ((117, .iastore, 0, 0, 0, 0, 0, 0, []) : xm_I) := rfl
theorem r_X3_placeOf_68 : co_X3_placeOf[68]? = some ((118, .iload 4, 0, 0, 0, 0, 0, 0, []) : xm_I) := rfl
theorem r_X3_placeOf_69 : co_X3_placeOf[69]? = some ((120, .iconst (-1), 0, 0, 0, 0, (-1), 0, []) : xm_I) := rfl
theorem r_X3_placeOf_70 : co_X3_placeOf[70]? = some ((121, .if_icmp .eq 14, 0, 0, 78, 0, 0, 0, []) : xm_I) := rfl
theorem r_X3_placeOf_71 : co_X3_placeOf[71]? = some ((124, .aload_n 0, 0, 0, 0, 0, 0, 0, []) : xm_I) := rfl
theorem r_X3_placeOf_72 : co_X3_placeOf[72]? = some ((125, .getfield 15, 341, 3, 1, 2, 0, 0, []) : xm_I) := rfl
theorem r_X3_placeOf_73 : co_X3_placeOf[73]? = some ((128, .iload 4, 0, 0, 0, 0, 0, 0, []) : xm_I) := rfl
theorem r_X3_placeOf_74 : co_X3_placeOf[74]? = some ((130, .iload 5, 0, 0, 0, 0, 0, 0, []) : xm_I) := rfl
theorem r_X3_placeOf_75 : co_X3_placeOf[75]? = some ((132, .iconst 1, 0, 0, 0, 0, 1, 0, []) : xm_I) := rfl
theorem r_X3_placeOf_76 : co_X3_placeOf[76]? = some ((133, .iadd, 0, 0, 0, 0, 0, 0, []) : xm_I) := rfl
theorem r_X3_placeOf_77 : co_X3_placeOf[77]? = some ((134, .iastore, 0, 0, 0, 0, 0, 0, []) : xm_I) := rfl
theorem r_X3_placeOf_78 : co_X3_placeOf[78]? = some ((135, .iload 5, 0, 0, 0, 0, 0, 0, []) : xm_I) := rfl
theorem r_X3_placeOf_79 : co_X3_placeOf[79]? = some ((137, .ireturn, 0, 0, 0, 0, 0, 0, []) : xm_I) := rfl
theorem p_X3_placeOf_0_0 {X : xm_X} {P : List xm_M} {d : Nat} {h : xm_H} {l0 : Nat} {l1 : Int32} {l2 : Int32} {l3 : Int32} {h0 : xm_H} {r0 : Int32} {h1 : xm_H} {r1 : Int32} {ro : Option Value} {ho : xm_H} (q0 : xm_V X P d 83 [.int l1] h (some (.int r0)) h0) (q1 : xm_V X P d 85 [.ref l0, .int l1, .int r0] h0 (some (.int r1)) h1) (q2 : X.1[l0]? = some (.inr 3)) (q3 : r1 = (-1 : Int32)) (K : xm_E X P d co_X3_placeOf 21 [some (.ref l0), some (.int l1), some (.int l2), some (.int l3), some (.int r1), none] [] h1 ro ho) : xm_E X P d co_X3_placeOf 0 [some (.ref l0), some (.int l1), some (.int l2), some (.int l3), none, none] [] h ro ho := by
  refine xm_E_s r_X3_placeOf_0 rfl rfl ?_
  refine xm_E_s r_X3_placeOf_1 rfl rfl ?_
  refine xm_E_s r_X3_placeOf_2 rfl rfl ?_
  refine xm_E_cs [.int l1] [.int l1, .ref l0] r_X3_placeOf_3 rfl rfl rfl (Nat.le_of_ble_eq_true rfl) rfl q0 ?_
  refine xm_E_cv [.ref l0, .int l1, .int r0] [] r_X3_placeOf_4 rfl rfl (Nat.le_of_ble_eq_true rfl) (xm_rc q2 (by decide)) rfl q1 ?_
  refine xm_E_s (ls1 := [some (.ref l0), some (.int l1), some (.int l2), some (.int l3), some (.int r1), none]) r_X3_placeOf_5 rfl rfl ?_
  refine xm_E_s r_X3_placeOf_6 rfl rfl ?_
  refine xm_E_s r_X3_placeOf_7 rfl rfl ?_
  refine xm_E_s r_X3_placeOf_8 rfl rfl ?_
  refine xm_E_t q3 ?_
  exact K
theorem p_X3_placeOf_0_1 {X : xm_X} {P : List xm_M} {d : Nat} {h : xm_H} {l0 : Nat} {l1 : Int32} {l2 : Int32} {l3 : Int32} {h0 : xm_H} {r0 : Int32} {h1 : xm_H} {r1 : Int32} {v2 : Nat} {n3 : Nat} {ro : Option Value} {ho : xm_H} (q0 : xm_V X P d 83 [.int l1] h (some (.int r0)) h0) (q1 : xm_V X P d 85 [.ref l0, .int l1, .int r0] h0 (some (.int r1)) h1) (q2 : X.1[l0]? = some (.inr 3)) (q3 : ¬ (r1 = (-1 : Int32))) (q4 : h1.2.2 l0 1 = some v2) (q5 : X.1[v2]? = some (.inl (0, n3))) (q6 : ¬ (r1 < 0 ∨ n3 ≤ r1.toNatClampNeg)) (q7 : h1.1 v2 r1.toNatClampNeg ≤ (0 : Int32)) (K : xm_E X P d co_X3_placeOf 21 [some (.ref l0), some (.int l1), some (.int l2), some (.int l3), some (.int r1), none] [] h1 ro ho) : xm_E X P d co_X3_placeOf 0 [some (.ref l0), some (.int l1), some (.int l2), some (.int l3), none, none] [] h ro ho := by
  refine xm_E_s r_X3_placeOf_0 rfl rfl ?_
  refine xm_E_s r_X3_placeOf_1 rfl rfl ?_
  refine xm_E_s r_X3_placeOf_2 rfl rfl ?_
  refine xm_E_cs [.int l1] [.int l1, .ref l0] r_X3_placeOf_3 rfl rfl rfl (Nat.le_of_ble_eq_true rfl) rfl q0 ?_
  refine xm_E_cv [.ref l0, .int l1, .int r0] [] r_X3_placeOf_4 rfl rfl (Nat.le_of_ble_eq_true rfl) (xm_rc q2 (by decide)) rfl q1 ?_
  refine xm_E_s (ls1 := [some (.ref l0), some (.int l1), some (.int l2), some (.int l3), some (.int r1), none]) r_X3_placeOf_5 rfl rfl ?_
  refine xm_E_s r_X3_placeOf_6 rfl rfl ?_
  refine xm_E_s r_X3_placeOf_7 rfl rfl ?_
  refine xm_E_s r_X3_placeOf_8 rfl rfl ?_
  refine xm_E_f q3 ?_
  refine xm_E_s r_X3_placeOf_9 rfl rfl ?_
  refine xm_E_s r_X3_placeOf_10 rfl (xm_T_gr rfl q2 rfl rfl q4) ?_
  refine xm_E_s r_X3_placeOf_11 rfl rfl ?_
  refine xm_E_s r_X3_placeOf_12 rfl (xm_T_iald rfl q5 (by decide) q6) ?_
  refine xm_E_s r_X3_placeOf_13 rfl rfl ?_
  refine xm_E_t q7 ?_
  exact K
theorem p_X3_placeOf_0_2 {X : xm_X} {P : List xm_M} {d : Nat} {h : xm_H} {l0 : Nat} {l1 : Int32} {l2 : Int32} {l3 : Int32} {h0 : xm_H} {r0 : Int32} {h1 : xm_H} {r1 : Int32} {v2 : Nat} {n3 : Nat} (q0 : xm_V X P d 83 [.int l1] h (some (.int r0)) h0) (q1 : xm_V X P d 85 [.ref l0, .int l1, .int r0] h0 (some (.int r1)) h1) (q2 : X.1[l0]? = some (.inr 3)) (q3 : ¬ (r1 = (-1 : Int32))) (q4 : h1.2.2 l0 1 = some v2) (q5 : X.1[v2]? = some (.inl (0, n3))) (q6 : ¬ (r1 < 0 ∨ n3 ≤ r1.toNatClampNeg)) (q7 : ¬ (h1.1 v2 r1.toNatClampNeg ≤ (0 : Int32))) : xm_E X P d co_X3_placeOf 0 [some (.ref l0), some (.int l1), some (.int l2), some (.int l3), none, none] [] h (some (.int ((h1.1 v2 r1.toNatClampNeg) - (1 : Int32)))) h1 := by
  refine xm_E_s r_X3_placeOf_0 rfl rfl ?_
  refine xm_E_s r_X3_placeOf_1 rfl rfl ?_
  refine xm_E_s r_X3_placeOf_2 rfl rfl ?_
  refine xm_E_cs [.int l1] [.int l1, .ref l0] r_X3_placeOf_3 rfl rfl rfl (Nat.le_of_ble_eq_true rfl) rfl q0 ?_
  refine xm_E_cv [.ref l0, .int l1, .int r0] [] r_X3_placeOf_4 rfl rfl (Nat.le_of_ble_eq_true rfl) (xm_rc q2 (by decide)) rfl q1 ?_
  refine xm_E_s (ls1 := [some (.ref l0), some (.int l1), some (.int l2), some (.int l3), some (.int r1), none]) r_X3_placeOf_5 rfl rfl ?_
  refine xm_E_s r_X3_placeOf_6 rfl rfl ?_
  refine xm_E_s r_X3_placeOf_7 rfl rfl ?_
  refine xm_E_s r_X3_placeOf_8 rfl rfl ?_
  refine xm_E_f q3 ?_
  refine xm_E_s r_X3_placeOf_9 rfl rfl ?_
  refine xm_E_s r_X3_placeOf_10 rfl (xm_T_gr rfl q2 rfl rfl q4) ?_
  refine xm_E_s r_X3_placeOf_11 rfl rfl ?_
  refine xm_E_s r_X3_placeOf_12 rfl (xm_T_iald rfl q5 (by decide) q6) ?_
  refine xm_E_s r_X3_placeOf_13 rfl rfl ?_
  refine xm_E_f q7 ?_
  refine xm_E_s r_X3_placeOf_14 rfl rfl ?_
  refine xm_E_s r_X3_placeOf_15 rfl (xm_T_gr rfl q2 rfl rfl q4) ?_
  refine xm_E_s r_X3_placeOf_16 rfl rfl ?_
  refine xm_E_s r_X3_placeOf_17 rfl (xm_T_iald rfl q5 (by decide) q6) ?_
  refine xm_E_s r_X3_placeOf_18 rfl rfl ?_
  refine xm_E_s r_X3_placeOf_19 rfl rfl ?_
  exact xm_E_iret r_X3_placeOf_20 rfl rfl
theorem p_X3_placeOf_21_0 {X : xm_X} {P : List xm_M} {d : Nat} {h : xm_H} {l0 : Nat} {l1 : Int32} {l2 : Int32} {l3 : Int32} {l4 : Int32} {v0 : Nat} {n1 : Nat} {v2 : Nat} {n3 : Nat} {v4 : Nat} {n5 : Nat} {v6 : Nat} {n7 : Nat} (q0 : X.1[l0]? = some (.inr 3)) (q1 : h.1 l0 14 < (640 : Int32)) (q2 : (xm_si h l0 14 ((h.1 l0 14) + (1 : Int32))).2.2 l0 2 = some v0) (q3 : X.1[v0]? = some (.inl (0, n1))) (q4 : ¬ (h.1 l0 14 < 0 ∨ n1 ≤ (h.1 l0 14).toNatClampNeg)) (q5 : (xm_si (xm_si h l0 14 ((h.1 l0 14) + (1 : Int32))) v0 ((h.1 l0 14).toNatClampNeg) l1).2.2 l0 4 = some v2) (q6 : X.1[v2]? = some (.inl (0, n3))) (q7 : ¬ (h.1 l0 14 < 0 ∨ n3 ≤ (h.1 l0 14).toNatClampNeg)) (q8 : (xm_si (xm_si (xm_si h l0 14 ((h.1 l0 14) + (1 : Int32))) v0 ((h.1 l0 14).toNatClampNeg) l1) v2 ((h.1 l0 14).toNatClampNeg) l2).2.2 l0 5 = some v4) (q9 : X.1[v4]? = some (.inl (0, n5))) (q10 : ¬ (h.1 l0 14 < 0 ∨ n5 ≤ (h.1 l0 14).toNatClampNeg)) (q11 : (xm_si (xm_si (xm_si (xm_si h l0 14 ((h.1 l0 14) + (1 : Int32))) v0 ((h.1 l0 14).toNatClampNeg) l1) v2 ((h.1 l0 14).toNatClampNeg) l2) v4 ((h.1 l0 14).toNatClampNeg) l3).2.2 l0 6 = some v6) (q12 : l2 < (0 : Int32)) (q13 : X.1[v6]? = some (.inl (0, n7))) (q14 : ¬ (h.1 l0 14 < 0 ∨ n7 ≤ (h.1 l0 14).toNatClampNeg)) (q15 : l4 = (-1 : Int32)) : xm_E X P d co_X3_placeOf 21 [some (.ref l0), some (.int l1), some (.int l2), some (.int l3), some (.int l4), none] [] h (some (.int (h.1 l0 14))) (xm_si (xm_si (xm_si (xm_si (xm_si h l0 14 ((h.1 l0 14) + (1 : Int32))) v0 ((h.1 l0 14).toNatClampNeg) l1) v2 ((h.1 l0 14).toNatClampNeg) l2) v4 ((h.1 l0 14).toNatClampNeg) l3) v6 ((h.1 l0 14).toNatClampNeg) (0 : Int32)) := by
  refine xm_E_s r_X3_placeOf_21 rfl rfl ?_
  refine xm_E_s r_X3_placeOf_22 rfl (xm_T_gi rfl q0 rfl (Or.inl rfl)) ?_
  refine xm_E_s r_X3_placeOf_23 rfl rfl ?_
  refine xm_E_s r_X3_placeOf_24 rfl rfl ?_
  refine xm_E_t q1 ?_
  refine xm_E_s r_X3_placeOf_27 rfl rfl ?_
  refine xm_E_s r_X3_placeOf_28 rfl (xm_T_gi rfl q0 rfl (Or.inl rfl)) ?_
  refine xm_E_s (ls1 := [some (.ref l0), some (.int l1), some (.int l2), some (.int l3), some (.int l4), some (.int (h.1 l0 14))]) r_X3_placeOf_29 rfl rfl ?_
  refine xm_E_s r_X3_placeOf_30 rfl rfl ?_
  refine xm_E_s r_X3_placeOf_31 rfl rfl ?_
  refine xm_E_s r_X3_placeOf_32 rfl (xm_T_gi rfl q0 rfl (Or.inl rfl)) ?_
  refine xm_E_s r_X3_placeOf_33 rfl rfl ?_
  refine xm_E_s r_X3_placeOf_34 rfl rfl ?_
  refine xm_E_s r_X3_placeOf_35 rfl (xm_T_pi rfl q0 rfl rfl) ?_
  refine xm_E_s r_X3_placeOf_36 rfl rfl ?_
  refine xm_E_s r_X3_placeOf_37 rfl (xm_T_gr rfl q0 rfl rfl q2) ?_
  refine xm_E_s r_X3_placeOf_38 rfl rfl ?_
  refine xm_E_s r_X3_placeOf_39 rfl rfl ?_
  refine xm_E_s r_X3_placeOf_40 rfl (xm_T_asi rfl q3 q4) ?_
  refine xm_E_s r_X3_placeOf_41 rfl rfl ?_
  refine xm_E_s r_X3_placeOf_42 rfl (xm_T_gr rfl q0 rfl rfl q5) ?_
  refine xm_E_s r_X3_placeOf_43 rfl rfl ?_
  refine xm_E_s r_X3_placeOf_44 rfl rfl ?_
  refine xm_E_s r_X3_placeOf_45 rfl (xm_T_asi rfl q6 q7) ?_
  refine xm_E_s r_X3_placeOf_46 rfl rfl ?_
  refine xm_E_s r_X3_placeOf_47 rfl (xm_T_gr rfl q0 rfl rfl q8) ?_
  refine xm_E_s r_X3_placeOf_48 rfl rfl ?_
  refine xm_E_s r_X3_placeOf_49 rfl rfl ?_
  refine xm_E_s r_X3_placeOf_50 rfl (xm_T_asi rfl q9 q10) ?_
  refine xm_E_s r_X3_placeOf_51 rfl rfl ?_
  refine xm_E_s r_X3_placeOf_52 rfl (xm_T_gr rfl q0 rfl rfl q11) ?_
  refine xm_E_s r_X3_placeOf_53 rfl rfl ?_
  refine xm_E_s r_X3_placeOf_54 rfl rfl ?_
  refine xm_E_s r_X3_placeOf_55 rfl rfl ?_
  refine xm_E_t q12 ?_
  refine xm_E_s r_X3_placeOf_66 rfl rfl ?_
  refine xm_E_s r_X3_placeOf_67 rfl (xm_T_asi rfl q13 q14) ?_
  refine xm_E_s r_X3_placeOf_68 rfl rfl ?_
  refine xm_E_s r_X3_placeOf_69 rfl rfl ?_
  refine xm_E_s r_X3_placeOf_70 rfl rfl ?_
  refine xm_E_t q15 ?_
  refine xm_E_s r_X3_placeOf_78 rfl rfl ?_
  exact xm_E_iret r_X3_placeOf_79 rfl rfl
theorem p_X3_placeOf_21_1 {X : xm_X} {P : List xm_M} {d : Nat} {h : xm_H} {l0 : Nat} {l1 : Int32} {l2 : Int32} {l3 : Int32} {l4 : Int32} {v0 : Nat} {n1 : Nat} {v2 : Nat} {n3 : Nat} {v4 : Nat} {n5 : Nat} {v6 : Nat} {n7 : Nat} {v8 : Nat} {n9 : Nat} (q0 : X.1[l0]? = some (.inr 3)) (q1 : h.1 l0 14 < (640 : Int32)) (q2 : (xm_si h l0 14 ((h.1 l0 14) + (1 : Int32))).2.2 l0 2 = some v0) (q3 : X.1[v0]? = some (.inl (0, n1))) (q4 : ¬ (h.1 l0 14 < 0 ∨ n1 ≤ (h.1 l0 14).toNatClampNeg)) (q5 : (xm_si (xm_si h l0 14 ((h.1 l0 14) + (1 : Int32))) v0 ((h.1 l0 14).toNatClampNeg) l1).2.2 l0 4 = some v2) (q6 : X.1[v2]? = some (.inl (0, n3))) (q7 : ¬ (h.1 l0 14 < 0 ∨ n3 ≤ (h.1 l0 14).toNatClampNeg)) (q8 : (xm_si (xm_si (xm_si h l0 14 ((h.1 l0 14) + (1 : Int32))) v0 ((h.1 l0 14).toNatClampNeg) l1) v2 ((h.1 l0 14).toNatClampNeg) l2).2.2 l0 5 = some v4) (q9 : X.1[v4]? = some (.inl (0, n5))) (q10 : ¬ (h.1 l0 14 < 0 ∨ n5 ≤ (h.1 l0 14).toNatClampNeg)) (q11 : (xm_si (xm_si (xm_si (xm_si h l0 14 ((h.1 l0 14) + (1 : Int32))) v0 ((h.1 l0 14).toNatClampNeg) l1) v2 ((h.1 l0 14).toNatClampNeg) l2) v4 ((h.1 l0 14).toNatClampNeg) l3).2.2 l0 6 = some v6) (q12 : l2 < (0 : Int32)) (q13 : X.1[v6]? = some (.inl (0, n7))) (q14 : ¬ (h.1 l0 14 < 0 ∨ n7 ≤ (h.1 l0 14).toNatClampNeg)) (q15 : ¬ (l4 = (-1 : Int32))) (q16 : (xm_si (xm_si (xm_si (xm_si (xm_si h l0 14 ((h.1 l0 14) + (1 : Int32))) v0 ((h.1 l0 14).toNatClampNeg) l1) v2 ((h.1 l0 14).toNatClampNeg) l2) v4 ((h.1 l0 14).toNatClampNeg) l3) v6 ((h.1 l0 14).toNatClampNeg) (0 : Int32)).2.2 l0 1 = some v8) (q17 : X.1[v8]? = some (.inl (0, n9))) (q18 : ¬ (l4 < 0 ∨ n9 ≤ l4.toNatClampNeg)) : xm_E X P d co_X3_placeOf 21 [some (.ref l0), some (.int l1), some (.int l2), some (.int l3), some (.int l4), none] [] h (some (.int (h.1 l0 14))) (xm_si (xm_si (xm_si (xm_si (xm_si (xm_si h l0 14 ((h.1 l0 14) + (1 : Int32))) v0 ((h.1 l0 14).toNatClampNeg) l1) v2 ((h.1 l0 14).toNatClampNeg) l2) v4 ((h.1 l0 14).toNatClampNeg) l3) v6 ((h.1 l0 14).toNatClampNeg) (0 : Int32)) v8 l4.toNatClampNeg ((h.1 l0 14) + (1 : Int32))) := by
  refine xm_E_s r_X3_placeOf_21 rfl rfl ?_
  refine xm_E_s r_X3_placeOf_22 rfl (xm_T_gi rfl q0 rfl (Or.inl rfl)) ?_
  refine xm_E_s r_X3_placeOf_23 rfl rfl ?_
  refine xm_E_s r_X3_placeOf_24 rfl rfl ?_
  refine xm_E_t q1 ?_
  refine xm_E_s r_X3_placeOf_27 rfl rfl ?_
  refine xm_E_s r_X3_placeOf_28 rfl (xm_T_gi rfl q0 rfl (Or.inl rfl)) ?_
  refine xm_E_s (ls1 := [some (.ref l0), some (.int l1), some (.int l2), some (.int l3), some (.int l4), some (.int (h.1 l0 14))]) r_X3_placeOf_29 rfl rfl ?_
  refine xm_E_s r_X3_placeOf_30 rfl rfl ?_
  refine xm_E_s r_X3_placeOf_31 rfl rfl ?_
  refine xm_E_s r_X3_placeOf_32 rfl (xm_T_gi rfl q0 rfl (Or.inl rfl)) ?_
  refine xm_E_s r_X3_placeOf_33 rfl rfl ?_
  refine xm_E_s r_X3_placeOf_34 rfl rfl ?_
  refine xm_E_s r_X3_placeOf_35 rfl (xm_T_pi rfl q0 rfl rfl) ?_
  refine xm_E_s r_X3_placeOf_36 rfl rfl ?_
  refine xm_E_s r_X3_placeOf_37 rfl (xm_T_gr rfl q0 rfl rfl q2) ?_
  refine xm_E_s r_X3_placeOf_38 rfl rfl ?_
  refine xm_E_s r_X3_placeOf_39 rfl rfl ?_
  refine xm_E_s r_X3_placeOf_40 rfl (xm_T_asi rfl q3 q4) ?_
  refine xm_E_s r_X3_placeOf_41 rfl rfl ?_
  refine xm_E_s r_X3_placeOf_42 rfl (xm_T_gr rfl q0 rfl rfl q5) ?_
  refine xm_E_s r_X3_placeOf_43 rfl rfl ?_
  refine xm_E_s r_X3_placeOf_44 rfl rfl ?_
  refine xm_E_s r_X3_placeOf_45 rfl (xm_T_asi rfl q6 q7) ?_
  refine xm_E_s r_X3_placeOf_46 rfl rfl ?_
  refine xm_E_s r_X3_placeOf_47 rfl (xm_T_gr rfl q0 rfl rfl q8) ?_
  refine xm_E_s r_X3_placeOf_48 rfl rfl ?_
  refine xm_E_s r_X3_placeOf_49 rfl rfl ?_
  refine xm_E_s r_X3_placeOf_50 rfl (xm_T_asi rfl q9 q10) ?_
  refine xm_E_s r_X3_placeOf_51 rfl rfl ?_
  refine xm_E_s r_X3_placeOf_52 rfl (xm_T_gr rfl q0 rfl rfl q11) ?_
  refine xm_E_s r_X3_placeOf_53 rfl rfl ?_
  refine xm_E_s r_X3_placeOf_54 rfl rfl ?_
  refine xm_E_s r_X3_placeOf_55 rfl rfl ?_
  refine xm_E_t q12 ?_
  refine xm_E_s r_X3_placeOf_66 rfl rfl ?_
  refine xm_E_s r_X3_placeOf_67 rfl (xm_T_asi rfl q13 q14) ?_
  refine xm_E_s r_X3_placeOf_68 rfl rfl ?_
  refine xm_E_s r_X3_placeOf_69 rfl rfl ?_
  refine xm_E_s r_X3_placeOf_70 rfl rfl ?_
  refine xm_E_f q15 ?_
  refine xm_E_s r_X3_placeOf_71 rfl rfl ?_
  refine xm_E_s r_X3_placeOf_72 rfl (xm_T_gr rfl q0 rfl rfl q16) ?_
  refine xm_E_s r_X3_placeOf_73 rfl rfl ?_
  refine xm_E_s r_X3_placeOf_74 rfl rfl ?_
  refine xm_E_s r_X3_placeOf_75 rfl rfl ?_
  refine xm_E_s r_X3_placeOf_76 rfl rfl ?_
  refine xm_E_s r_X3_placeOf_77 rfl (xm_T_asi rfl q17 q18) ?_
  refine xm_E_s r_X3_placeOf_78 rfl rfl ?_
  exact xm_E_iret r_X3_placeOf_79 rfl rfl
theorem p_X3_placeOf_21_2 {X : xm_X} {P : List xm_M} {d : Nat} {h : xm_H} {l0 : Nat} {l1 : Int32} {l2 : Int32} {l3 : Int32} {l4 : Int32} {v0 : Nat} {n1 : Nat} {v2 : Nat} {n3 : Nat} {v4 : Nat} {n5 : Nat} {v6 : Nat} {n7 : Nat} (q0 : X.1[l0]? = some (.inr 3)) (q1 : h.1 l0 14 < (640 : Int32)) (q2 : (xm_si h l0 14 ((h.1 l0 14) + (1 : Int32))).2.2 l0 2 = some v0) (q3 : X.1[v0]? = some (.inl (0, n1))) (q4 : ¬ (h.1 l0 14 < 0 ∨ n1 ≤ (h.1 l0 14).toNatClampNeg)) (q5 : (xm_si (xm_si h l0 14 ((h.1 l0 14) + (1 : Int32))) v0 ((h.1 l0 14).toNatClampNeg) l1).2.2 l0 4 = some v2) (q6 : X.1[v2]? = some (.inl (0, n3))) (q7 : ¬ (h.1 l0 14 < 0 ∨ n3 ≤ (h.1 l0 14).toNatClampNeg)) (q8 : (xm_si (xm_si (xm_si h l0 14 ((h.1 l0 14) + (1 : Int32))) v0 ((h.1 l0 14).toNatClampNeg) l1) v2 ((h.1 l0 14).toNatClampNeg) l2).2.2 l0 5 = some v4) (q9 : X.1[v4]? = some (.inl (0, n5))) (q10 : ¬ (h.1 l0 14 < 0 ∨ n5 ≤ (h.1 l0 14).toNatClampNeg)) (q11 : (xm_si (xm_si (xm_si (xm_si h l0 14 ((h.1 l0 14) + (1 : Int32))) v0 ((h.1 l0 14).toNatClampNeg) l1) v2 ((h.1 l0 14).toNatClampNeg) l2) v4 ((h.1 l0 14).toNatClampNeg) l3).2.2 l0 6 = some v6) (q12 : ¬ (l2 < (0 : Int32))) (q13 : h.1 l0 14 ≤ l2) (q14 : X.1[v6]? = some (.inl (0, n7))) (q15 : ¬ (h.1 l0 14 < 0 ∨ n7 ≤ (h.1 l0 14).toNatClampNeg)) (q16 : l4 = (-1 : Int32)) : xm_E X P d co_X3_placeOf 21 [some (.ref l0), some (.int l1), some (.int l2), some (.int l3), some (.int l4), none] [] h (some (.int (h.1 l0 14))) (xm_si (xm_si (xm_si (xm_si (xm_si h l0 14 ((h.1 l0 14) + (1 : Int32))) v0 ((h.1 l0 14).toNatClampNeg) l1) v2 ((h.1 l0 14).toNatClampNeg) l2) v4 ((h.1 l0 14).toNatClampNeg) l3) v6 ((h.1 l0 14).toNatClampNeg) (0 : Int32)) := by
  refine xm_E_s r_X3_placeOf_21 rfl rfl ?_
  refine xm_E_s r_X3_placeOf_22 rfl (xm_T_gi rfl q0 rfl (Or.inl rfl)) ?_
  refine xm_E_s r_X3_placeOf_23 rfl rfl ?_
  refine xm_E_s r_X3_placeOf_24 rfl rfl ?_
  refine xm_E_t q1 ?_
  refine xm_E_s r_X3_placeOf_27 rfl rfl ?_
  refine xm_E_s r_X3_placeOf_28 rfl (xm_T_gi rfl q0 rfl (Or.inl rfl)) ?_
  refine xm_E_s (ls1 := [some (.ref l0), some (.int l1), some (.int l2), some (.int l3), some (.int l4), some (.int (h.1 l0 14))]) r_X3_placeOf_29 rfl rfl ?_
  refine xm_E_s r_X3_placeOf_30 rfl rfl ?_
  refine xm_E_s r_X3_placeOf_31 rfl rfl ?_
  refine xm_E_s r_X3_placeOf_32 rfl (xm_T_gi rfl q0 rfl (Or.inl rfl)) ?_
  refine xm_E_s r_X3_placeOf_33 rfl rfl ?_
  refine xm_E_s r_X3_placeOf_34 rfl rfl ?_
  refine xm_E_s r_X3_placeOf_35 rfl (xm_T_pi rfl q0 rfl rfl) ?_
  refine xm_E_s r_X3_placeOf_36 rfl rfl ?_
  refine xm_E_s r_X3_placeOf_37 rfl (xm_T_gr rfl q0 rfl rfl q2) ?_
  refine xm_E_s r_X3_placeOf_38 rfl rfl ?_
  refine xm_E_s r_X3_placeOf_39 rfl rfl ?_
  refine xm_E_s r_X3_placeOf_40 rfl (xm_T_asi rfl q3 q4) ?_
  refine xm_E_s r_X3_placeOf_41 rfl rfl ?_
  refine xm_E_s r_X3_placeOf_42 rfl (xm_T_gr rfl q0 rfl rfl q5) ?_
  refine xm_E_s r_X3_placeOf_43 rfl rfl ?_
  refine xm_E_s r_X3_placeOf_44 rfl rfl ?_
  refine xm_E_s r_X3_placeOf_45 rfl (xm_T_asi rfl q6 q7) ?_
  refine xm_E_s r_X3_placeOf_46 rfl rfl ?_
  refine xm_E_s r_X3_placeOf_47 rfl (xm_T_gr rfl q0 rfl rfl q8) ?_
  refine xm_E_s r_X3_placeOf_48 rfl rfl ?_
  refine xm_E_s r_X3_placeOf_49 rfl rfl ?_
  refine xm_E_s r_X3_placeOf_50 rfl (xm_T_asi rfl q9 q10) ?_
  refine xm_E_s r_X3_placeOf_51 rfl rfl ?_
  refine xm_E_s r_X3_placeOf_52 rfl (xm_T_gr rfl q0 rfl rfl q11) ?_
  refine xm_E_s r_X3_placeOf_53 rfl rfl ?_
  refine xm_E_s r_X3_placeOf_54 rfl rfl ?_
  refine xm_E_s r_X3_placeOf_55 rfl rfl ?_
  refine xm_E_f q12 ?_
  refine xm_E_s r_X3_placeOf_56 rfl rfl ?_
  refine xm_E_s r_X3_placeOf_57 rfl rfl ?_
  refine xm_E_s r_X3_placeOf_58 rfl rfl ?_
  refine xm_E_t q13 ?_
  refine xm_E_s r_X3_placeOf_66 rfl rfl ?_
  refine xm_E_s r_X3_placeOf_67 rfl (xm_T_asi rfl q14 q15) ?_
  refine xm_E_s r_X3_placeOf_68 rfl rfl ?_
  refine xm_E_s r_X3_placeOf_69 rfl rfl ?_
  refine xm_E_s r_X3_placeOf_70 rfl rfl ?_
  refine xm_E_t q16 ?_
  refine xm_E_s r_X3_placeOf_78 rfl rfl ?_
  exact xm_E_iret r_X3_placeOf_79 rfl rfl
theorem p_X3_placeOf_21_3 {X : xm_X} {P : List xm_M} {d : Nat} {h : xm_H} {l0 : Nat} {l1 : Int32} {l2 : Int32} {l3 : Int32} {l4 : Int32} {v0 : Nat} {n1 : Nat} {v2 : Nat} {n3 : Nat} {v4 : Nat} {n5 : Nat} {v6 : Nat} {n7 : Nat} {v8 : Nat} {n9 : Nat} (q0 : X.1[l0]? = some (.inr 3)) (q1 : h.1 l0 14 < (640 : Int32)) (q2 : (xm_si h l0 14 ((h.1 l0 14) + (1 : Int32))).2.2 l0 2 = some v0) (q3 : X.1[v0]? = some (.inl (0, n1))) (q4 : ¬ (h.1 l0 14 < 0 ∨ n1 ≤ (h.1 l0 14).toNatClampNeg)) (q5 : (xm_si (xm_si h l0 14 ((h.1 l0 14) + (1 : Int32))) v0 ((h.1 l0 14).toNatClampNeg) l1).2.2 l0 4 = some v2) (q6 : X.1[v2]? = some (.inl (0, n3))) (q7 : ¬ (h.1 l0 14 < 0 ∨ n3 ≤ (h.1 l0 14).toNatClampNeg)) (q8 : (xm_si (xm_si (xm_si h l0 14 ((h.1 l0 14) + (1 : Int32))) v0 ((h.1 l0 14).toNatClampNeg) l1) v2 ((h.1 l0 14).toNatClampNeg) l2).2.2 l0 5 = some v4) (q9 : X.1[v4]? = some (.inl (0, n5))) (q10 : ¬ (h.1 l0 14 < 0 ∨ n5 ≤ (h.1 l0 14).toNatClampNeg)) (q11 : (xm_si (xm_si (xm_si (xm_si h l0 14 ((h.1 l0 14) + (1 : Int32))) v0 ((h.1 l0 14).toNatClampNeg) l1) v2 ((h.1 l0 14).toNatClampNeg) l2) v4 ((h.1 l0 14).toNatClampNeg) l3).2.2 l0 6 = some v6) (q12 : ¬ (l2 < (0 : Int32))) (q13 : h.1 l0 14 ≤ l2) (q14 : X.1[v6]? = some (.inl (0, n7))) (q15 : ¬ (h.1 l0 14 < 0 ∨ n7 ≤ (h.1 l0 14).toNatClampNeg)) (q16 : ¬ (l4 = (-1 : Int32))) (q17 : (xm_si (xm_si (xm_si (xm_si (xm_si h l0 14 ((h.1 l0 14) + (1 : Int32))) v0 ((h.1 l0 14).toNatClampNeg) l1) v2 ((h.1 l0 14).toNatClampNeg) l2) v4 ((h.1 l0 14).toNatClampNeg) l3) v6 ((h.1 l0 14).toNatClampNeg) (0 : Int32)).2.2 l0 1 = some v8) (q18 : X.1[v8]? = some (.inl (0, n9))) (q19 : ¬ (l4 < 0 ∨ n9 ≤ l4.toNatClampNeg)) : xm_E X P d co_X3_placeOf 21 [some (.ref l0), some (.int l1), some (.int l2), some (.int l3), some (.int l4), none] [] h (some (.int (h.1 l0 14))) (xm_si (xm_si (xm_si (xm_si (xm_si (xm_si h l0 14 ((h.1 l0 14) + (1 : Int32))) v0 ((h.1 l0 14).toNatClampNeg) l1) v2 ((h.1 l0 14).toNatClampNeg) l2) v4 ((h.1 l0 14).toNatClampNeg) l3) v6 ((h.1 l0 14).toNatClampNeg) (0 : Int32)) v8 l4.toNatClampNeg ((h.1 l0 14) + (1 : Int32))) := by
  refine xm_E_s r_X3_placeOf_21 rfl rfl ?_
  refine xm_E_s r_X3_placeOf_22 rfl (xm_T_gi rfl q0 rfl (Or.inl rfl)) ?_
  refine xm_E_s r_X3_placeOf_23 rfl rfl ?_
  refine xm_E_s r_X3_placeOf_24 rfl rfl ?_
  refine xm_E_t q1 ?_
  refine xm_E_s r_X3_placeOf_27 rfl rfl ?_
  refine xm_E_s r_X3_placeOf_28 rfl (xm_T_gi rfl q0 rfl (Or.inl rfl)) ?_
  refine xm_E_s (ls1 := [some (.ref l0), some (.int l1), some (.int l2), some (.int l3), some (.int l4), some (.int (h.1 l0 14))]) r_X3_placeOf_29 rfl rfl ?_
  refine xm_E_s r_X3_placeOf_30 rfl rfl ?_
  refine xm_E_s r_X3_placeOf_31 rfl rfl ?_
  refine xm_E_s r_X3_placeOf_32 rfl (xm_T_gi rfl q0 rfl (Or.inl rfl)) ?_
  refine xm_E_s r_X3_placeOf_33 rfl rfl ?_
  refine xm_E_s r_X3_placeOf_34 rfl rfl ?_
  refine xm_E_s r_X3_placeOf_35 rfl (xm_T_pi rfl q0 rfl rfl) ?_
  refine xm_E_s r_X3_placeOf_36 rfl rfl ?_
  refine xm_E_s r_X3_placeOf_37 rfl (xm_T_gr rfl q0 rfl rfl q2) ?_
  refine xm_E_s r_X3_placeOf_38 rfl rfl ?_
  refine xm_E_s r_X3_placeOf_39 rfl rfl ?_
  refine xm_E_s r_X3_placeOf_40 rfl (xm_T_asi rfl q3 q4) ?_
  refine xm_E_s r_X3_placeOf_41 rfl rfl ?_
  refine xm_E_s r_X3_placeOf_42 rfl (xm_T_gr rfl q0 rfl rfl q5) ?_
  refine xm_E_s r_X3_placeOf_43 rfl rfl ?_
  refine xm_E_s r_X3_placeOf_44 rfl rfl ?_
  refine xm_E_s r_X3_placeOf_45 rfl (xm_T_asi rfl q6 q7) ?_
  refine xm_E_s r_X3_placeOf_46 rfl rfl ?_
  refine xm_E_s r_X3_placeOf_47 rfl (xm_T_gr rfl q0 rfl rfl q8) ?_
  refine xm_E_s r_X3_placeOf_48 rfl rfl ?_
  refine xm_E_s r_X3_placeOf_49 rfl rfl ?_
  refine xm_E_s r_X3_placeOf_50 rfl (xm_T_asi rfl q9 q10) ?_
  refine xm_E_s r_X3_placeOf_51 rfl rfl ?_
  refine xm_E_s r_X3_placeOf_52 rfl (xm_T_gr rfl q0 rfl rfl q11) ?_
  refine xm_E_s r_X3_placeOf_53 rfl rfl ?_
  refine xm_E_s r_X3_placeOf_54 rfl rfl ?_
  refine xm_E_s r_X3_placeOf_55 rfl rfl ?_
  refine xm_E_f q12 ?_
  refine xm_E_s r_X3_placeOf_56 rfl rfl ?_
  refine xm_E_s r_X3_placeOf_57 rfl rfl ?_
  refine xm_E_s r_X3_placeOf_58 rfl rfl ?_
  refine xm_E_t q13 ?_
  refine xm_E_s r_X3_placeOf_66 rfl rfl ?_
  refine xm_E_s r_X3_placeOf_67 rfl (xm_T_asi rfl q14 q15) ?_
  refine xm_E_s r_X3_placeOf_68 rfl rfl ?_
  refine xm_E_s r_X3_placeOf_69 rfl rfl ?_
  refine xm_E_s r_X3_placeOf_70 rfl rfl ?_
  refine xm_E_f q16 ?_
  refine xm_E_s r_X3_placeOf_71 rfl rfl ?_
  refine xm_E_s r_X3_placeOf_72 rfl (xm_T_gr rfl q0 rfl rfl q17) ?_
  refine xm_E_s r_X3_placeOf_73 rfl rfl ?_
  refine xm_E_s r_X3_placeOf_74 rfl rfl ?_
  refine xm_E_s r_X3_placeOf_75 rfl rfl ?_
  refine xm_E_s r_X3_placeOf_76 rfl rfl ?_
  refine xm_E_s r_X3_placeOf_77 rfl (xm_T_asi rfl q18 q19) ?_
  refine xm_E_s r_X3_placeOf_78 rfl rfl ?_
  exact xm_E_iret r_X3_placeOf_79 rfl rfl
theorem p_X3_placeOf_21_4 {X : xm_X} {P : List xm_M} {d : Nat} {h : xm_H} {l0 : Nat} {l1 : Int32} {l2 : Int32} {l3 : Int32} {l4 : Int32} {v0 : Nat} {n1 : Nat} {v2 : Nat} {n3 : Nat} {v4 : Nat} {n5 : Nat} {v6 : Nat} {n7 : Nat} (q0 : X.1[l0]? = some (.inr 3)) (q1 : h.1 l0 14 < (640 : Int32)) (q2 : (xm_si h l0 14 ((h.1 l0 14) + (1 : Int32))).2.2 l0 2 = some v0) (q3 : X.1[v0]? = some (.inl (0, n1))) (q4 : ¬ (h.1 l0 14 < 0 ∨ n1 ≤ (h.1 l0 14).toNatClampNeg)) (q5 : (xm_si (xm_si h l0 14 ((h.1 l0 14) + (1 : Int32))) v0 ((h.1 l0 14).toNatClampNeg) l1).2.2 l0 4 = some v2) (q6 : X.1[v2]? = some (.inl (0, n3))) (q7 : ¬ (h.1 l0 14 < 0 ∨ n3 ≤ (h.1 l0 14).toNatClampNeg)) (q8 : (xm_si (xm_si (xm_si h l0 14 ((h.1 l0 14) + (1 : Int32))) v0 ((h.1 l0 14).toNatClampNeg) l1) v2 ((h.1 l0 14).toNatClampNeg) l2).2.2 l0 5 = some v4) (q9 : X.1[v4]? = some (.inl (0, n5))) (q10 : ¬ (h.1 l0 14 < 0 ∨ n5 ≤ (h.1 l0 14).toNatClampNeg)) (q11 : (xm_si (xm_si (xm_si (xm_si h l0 14 ((h.1 l0 14) + (1 : Int32))) v0 ((h.1 l0 14).toNatClampNeg) l1) v2 ((h.1 l0 14).toNatClampNeg) l2) v4 ((h.1 l0 14).toNatClampNeg) l3).2.2 l0 6 = some v6) (q12 : ¬ (l2 < (0 : Int32))) (q13 : ¬ (h.1 l0 14 ≤ l2)) (q14 : X.1[v6]? = some (.inl (0, n7))) (q15 : ¬ (l2 < 0 ∨ n7 ≤ l2.toNatClampNeg)) (q16 : ¬ (h.1 l0 14 < 0 ∨ n7 ≤ (h.1 l0 14).toNatClampNeg)) (q17 : l4 = (-1 : Int32)) : xm_E X P d co_X3_placeOf 21 [some (.ref l0), some (.int l1), some (.int l2), some (.int l3), some (.int l4), none] [] h (some (.int (h.1 l0 14))) (xm_si (xm_si (xm_si (xm_si (xm_si h l0 14 ((h.1 l0 14) + (1 : Int32))) v0 ((h.1 l0 14).toNatClampNeg) l1) v2 ((h.1 l0 14).toNatClampNeg) l2) v4 ((h.1 l0 14).toNatClampNeg) l3) v6 ((h.1 l0 14).toNatClampNeg) (((xm_si (xm_si (xm_si (xm_si h l0 14 ((h.1 l0 14) + (1 : Int32))) v0 ((h.1 l0 14).toNatClampNeg) l1) v2 ((h.1 l0 14).toNatClampNeg) l2) v4 ((h.1 l0 14).toNatClampNeg) l3).1 v6 l2.toNatClampNeg) + (1 : Int32))) := by
  refine xm_E_s r_X3_placeOf_21 rfl rfl ?_
  refine xm_E_s r_X3_placeOf_22 rfl (xm_T_gi rfl q0 rfl (Or.inl rfl)) ?_
  refine xm_E_s r_X3_placeOf_23 rfl rfl ?_
  refine xm_E_s r_X3_placeOf_24 rfl rfl ?_
  refine xm_E_t q1 ?_
  refine xm_E_s r_X3_placeOf_27 rfl rfl ?_
  refine xm_E_s r_X3_placeOf_28 rfl (xm_T_gi rfl q0 rfl (Or.inl rfl)) ?_
  refine xm_E_s (ls1 := [some (.ref l0), some (.int l1), some (.int l2), some (.int l3), some (.int l4), some (.int (h.1 l0 14))]) r_X3_placeOf_29 rfl rfl ?_
  refine xm_E_s r_X3_placeOf_30 rfl rfl ?_
  refine xm_E_s r_X3_placeOf_31 rfl rfl ?_
  refine xm_E_s r_X3_placeOf_32 rfl (xm_T_gi rfl q0 rfl (Or.inl rfl)) ?_
  refine xm_E_s r_X3_placeOf_33 rfl rfl ?_
  refine xm_E_s r_X3_placeOf_34 rfl rfl ?_
  refine xm_E_s r_X3_placeOf_35 rfl (xm_T_pi rfl q0 rfl rfl) ?_
  refine xm_E_s r_X3_placeOf_36 rfl rfl ?_
  refine xm_E_s r_X3_placeOf_37 rfl (xm_T_gr rfl q0 rfl rfl q2) ?_
  refine xm_E_s r_X3_placeOf_38 rfl rfl ?_
  refine xm_E_s r_X3_placeOf_39 rfl rfl ?_
  refine xm_E_s r_X3_placeOf_40 rfl (xm_T_asi rfl q3 q4) ?_
  refine xm_E_s r_X3_placeOf_41 rfl rfl ?_
  refine xm_E_s r_X3_placeOf_42 rfl (xm_T_gr rfl q0 rfl rfl q5) ?_
  refine xm_E_s r_X3_placeOf_43 rfl rfl ?_
  refine xm_E_s r_X3_placeOf_44 rfl rfl ?_
  refine xm_E_s r_X3_placeOf_45 rfl (xm_T_asi rfl q6 q7) ?_
  refine xm_E_s r_X3_placeOf_46 rfl rfl ?_
  refine xm_E_s r_X3_placeOf_47 rfl (xm_T_gr rfl q0 rfl rfl q8) ?_
  refine xm_E_s r_X3_placeOf_48 rfl rfl ?_
  refine xm_E_s r_X3_placeOf_49 rfl rfl ?_
  refine xm_E_s r_X3_placeOf_50 rfl (xm_T_asi rfl q9 q10) ?_
  refine xm_E_s r_X3_placeOf_51 rfl rfl ?_
  refine xm_E_s r_X3_placeOf_52 rfl (xm_T_gr rfl q0 rfl rfl q11) ?_
  refine xm_E_s r_X3_placeOf_53 rfl rfl ?_
  refine xm_E_s r_X3_placeOf_54 rfl rfl ?_
  refine xm_E_s r_X3_placeOf_55 rfl rfl ?_
  refine xm_E_f q12 ?_
  refine xm_E_s r_X3_placeOf_56 rfl rfl ?_
  refine xm_E_s r_X3_placeOf_57 rfl rfl ?_
  refine xm_E_s r_X3_placeOf_58 rfl rfl ?_
  refine xm_E_f q13 ?_
  refine xm_E_s r_X3_placeOf_59 rfl rfl ?_
  refine xm_E_s r_X3_placeOf_60 rfl (xm_T_gr rfl q0 rfl rfl q11) ?_
  refine xm_E_s r_X3_placeOf_61 rfl rfl ?_
  refine xm_E_s r_X3_placeOf_62 rfl (xm_T_iald rfl q14 (by decide) q15) ?_
  refine xm_E_s r_X3_placeOf_63 rfl rfl ?_
  refine xm_E_s r_X3_placeOf_64 rfl rfl ?_
  refine xm_E_s r_X3_placeOf_65 rfl rfl ?_
  refine xm_E_s r_X3_placeOf_67 rfl (xm_T_asi rfl q14 q16) ?_
  refine xm_E_s r_X3_placeOf_68 rfl rfl ?_
  refine xm_E_s r_X3_placeOf_69 rfl rfl ?_
  refine xm_E_s r_X3_placeOf_70 rfl rfl ?_
  refine xm_E_t q17 ?_
  refine xm_E_s r_X3_placeOf_78 rfl rfl ?_
  exact xm_E_iret r_X3_placeOf_79 rfl rfl
theorem p_X3_placeOf_21_5 {X : xm_X} {P : List xm_M} {d : Nat} {h : xm_H} {l0 : Nat} {l1 : Int32} {l2 : Int32} {l3 : Int32} {l4 : Int32} {v0 : Nat} {n1 : Nat} {v2 : Nat} {n3 : Nat} {v4 : Nat} {n5 : Nat} {v6 : Nat} {n7 : Nat} {v8 : Nat} {n9 : Nat} (q0 : X.1[l0]? = some (.inr 3)) (q1 : h.1 l0 14 < (640 : Int32)) (q2 : (xm_si h l0 14 ((h.1 l0 14) + (1 : Int32))).2.2 l0 2 = some v0) (q3 : X.1[v0]? = some (.inl (0, n1))) (q4 : ¬ (h.1 l0 14 < 0 ∨ n1 ≤ (h.1 l0 14).toNatClampNeg)) (q5 : (xm_si (xm_si h l0 14 ((h.1 l0 14) + (1 : Int32))) v0 ((h.1 l0 14).toNatClampNeg) l1).2.2 l0 4 = some v2) (q6 : X.1[v2]? = some (.inl (0, n3))) (q7 : ¬ (h.1 l0 14 < 0 ∨ n3 ≤ (h.1 l0 14).toNatClampNeg)) (q8 : (xm_si (xm_si (xm_si h l0 14 ((h.1 l0 14) + (1 : Int32))) v0 ((h.1 l0 14).toNatClampNeg) l1) v2 ((h.1 l0 14).toNatClampNeg) l2).2.2 l0 5 = some v4) (q9 : X.1[v4]? = some (.inl (0, n5))) (q10 : ¬ (h.1 l0 14 < 0 ∨ n5 ≤ (h.1 l0 14).toNatClampNeg)) (q11 : (xm_si (xm_si (xm_si (xm_si h l0 14 ((h.1 l0 14) + (1 : Int32))) v0 ((h.1 l0 14).toNatClampNeg) l1) v2 ((h.1 l0 14).toNatClampNeg) l2) v4 ((h.1 l0 14).toNatClampNeg) l3).2.2 l0 6 = some v6) (q12 : ¬ (l2 < (0 : Int32))) (q13 : ¬ (h.1 l0 14 ≤ l2)) (q14 : X.1[v6]? = some (.inl (0, n7))) (q15 : ¬ (l2 < 0 ∨ n7 ≤ l2.toNatClampNeg)) (q16 : ¬ (h.1 l0 14 < 0 ∨ n7 ≤ (h.1 l0 14).toNatClampNeg)) (q17 : ¬ (l4 = (-1 : Int32))) (q18 : (xm_si (xm_si (xm_si (xm_si (xm_si h l0 14 ((h.1 l0 14) + (1 : Int32))) v0 ((h.1 l0 14).toNatClampNeg) l1) v2 ((h.1 l0 14).toNatClampNeg) l2) v4 ((h.1 l0 14).toNatClampNeg) l3) v6 ((h.1 l0 14).toNatClampNeg) (((xm_si (xm_si (xm_si (xm_si h l0 14 ((h.1 l0 14) + (1 : Int32))) v0 ((h.1 l0 14).toNatClampNeg) l1) v2 ((h.1 l0 14).toNatClampNeg) l2) v4 ((h.1 l0 14).toNatClampNeg) l3).1 v6 l2.toNatClampNeg) + (1 : Int32))).2.2 l0 1 = some v8) (q19 : X.1[v8]? = some (.inl (0, n9))) (q20 : ¬ (l4 < 0 ∨ n9 ≤ l4.toNatClampNeg)) : xm_E X P d co_X3_placeOf 21 [some (.ref l0), some (.int l1), some (.int l2), some (.int l3), some (.int l4), none] [] h (some (.int (h.1 l0 14))) (xm_si (xm_si (xm_si (xm_si (xm_si (xm_si h l0 14 ((h.1 l0 14) + (1 : Int32))) v0 ((h.1 l0 14).toNatClampNeg) l1) v2 ((h.1 l0 14).toNatClampNeg) l2) v4 ((h.1 l0 14).toNatClampNeg) l3) v6 ((h.1 l0 14).toNatClampNeg) (((xm_si (xm_si (xm_si (xm_si h l0 14 ((h.1 l0 14) + (1 : Int32))) v0 ((h.1 l0 14).toNatClampNeg) l1) v2 ((h.1 l0 14).toNatClampNeg) l2) v4 ((h.1 l0 14).toNatClampNeg) l3).1 v6 l2.toNatClampNeg) + (1 : Int32))) v8 l4.toNatClampNeg ((h.1 l0 14) + (1 : Int32))) := by
  refine xm_E_s r_X3_placeOf_21 rfl rfl ?_
  refine xm_E_s r_X3_placeOf_22 rfl (xm_T_gi rfl q0 rfl (Or.inl rfl)) ?_
  refine xm_E_s r_X3_placeOf_23 rfl rfl ?_
  refine xm_E_s r_X3_placeOf_24 rfl rfl ?_
  refine xm_E_t q1 ?_
  refine xm_E_s r_X3_placeOf_27 rfl rfl ?_
  refine xm_E_s r_X3_placeOf_28 rfl (xm_T_gi rfl q0 rfl (Or.inl rfl)) ?_
  refine xm_E_s (ls1 := [some (.ref l0), some (.int l1), some (.int l2), some (.int l3), some (.int l4), some (.int (h.1 l0 14))]) r_X3_placeOf_29 rfl rfl ?_
  refine xm_E_s r_X3_placeOf_30 rfl rfl ?_
  refine xm_E_s r_X3_placeOf_31 rfl rfl ?_
  refine xm_E_s r_X3_placeOf_32 rfl (xm_T_gi rfl q0 rfl (Or.inl rfl)) ?_
  refine xm_E_s r_X3_placeOf_33 rfl rfl ?_
  refine xm_E_s r_X3_placeOf_34 rfl rfl ?_
  refine xm_E_s r_X3_placeOf_35 rfl (xm_T_pi rfl q0 rfl rfl) ?_
  refine xm_E_s r_X3_placeOf_36 rfl rfl ?_
  refine xm_E_s r_X3_placeOf_37 rfl (xm_T_gr rfl q0 rfl rfl q2) ?_
  refine xm_E_s r_X3_placeOf_38 rfl rfl ?_
  refine xm_E_s r_X3_placeOf_39 rfl rfl ?_
  refine xm_E_s r_X3_placeOf_40 rfl (xm_T_asi rfl q3 q4) ?_
  refine xm_E_s r_X3_placeOf_41 rfl rfl ?_
  refine xm_E_s r_X3_placeOf_42 rfl (xm_T_gr rfl q0 rfl rfl q5) ?_
  refine xm_E_s r_X3_placeOf_43 rfl rfl ?_
  refine xm_E_s r_X3_placeOf_44 rfl rfl ?_
  refine xm_E_s r_X3_placeOf_45 rfl (xm_T_asi rfl q6 q7) ?_
  refine xm_E_s r_X3_placeOf_46 rfl rfl ?_
  refine xm_E_s r_X3_placeOf_47 rfl (xm_T_gr rfl q0 rfl rfl q8) ?_
  refine xm_E_s r_X3_placeOf_48 rfl rfl ?_
  refine xm_E_s r_X3_placeOf_49 rfl rfl ?_
  refine xm_E_s r_X3_placeOf_50 rfl (xm_T_asi rfl q9 q10) ?_
  refine xm_E_s r_X3_placeOf_51 rfl rfl ?_
  refine xm_E_s r_X3_placeOf_52 rfl (xm_T_gr rfl q0 rfl rfl q11) ?_
  refine xm_E_s r_X3_placeOf_53 rfl rfl ?_
  refine xm_E_s r_X3_placeOf_54 rfl rfl ?_
  refine xm_E_s r_X3_placeOf_55 rfl rfl ?_
  refine xm_E_f q12 ?_
  refine xm_E_s r_X3_placeOf_56 rfl rfl ?_
  refine xm_E_s r_X3_placeOf_57 rfl rfl ?_
  refine xm_E_s r_X3_placeOf_58 rfl rfl ?_
  refine xm_E_f q13 ?_
  refine xm_E_s r_X3_placeOf_59 rfl rfl ?_
  refine xm_E_s r_X3_placeOf_60 rfl (xm_T_gr rfl q0 rfl rfl q11) ?_
  refine xm_E_s r_X3_placeOf_61 rfl rfl ?_
  refine xm_E_s r_X3_placeOf_62 rfl (xm_T_iald rfl q14 (by decide) q15) ?_
  refine xm_E_s r_X3_placeOf_63 rfl rfl ?_
  refine xm_E_s r_X3_placeOf_64 rfl rfl ?_
  refine xm_E_s r_X3_placeOf_65 rfl rfl ?_
  refine xm_E_s r_X3_placeOf_67 rfl (xm_T_asi rfl q14 q16) ?_
  refine xm_E_s r_X3_placeOf_68 rfl rfl ?_
  refine xm_E_s r_X3_placeOf_69 rfl rfl ?_
  refine xm_E_s r_X3_placeOf_70 rfl rfl ?_
  refine xm_E_f q17 ?_
  refine xm_E_s r_X3_placeOf_71 rfl rfl ?_
  refine xm_E_s r_X3_placeOf_72 rfl (xm_T_gr rfl q0 rfl rfl q18) ?_
  refine xm_E_s r_X3_placeOf_73 rfl rfl ?_
  refine xm_E_s r_X3_placeOf_74 rfl rfl ?_
  refine xm_E_s r_X3_placeOf_75 rfl rfl ?_
  refine xm_E_s r_X3_placeOf_76 rfl rfl ?_
  refine xm_E_s r_X3_placeOf_77 rfl (xm_T_asi rfl q19 q20) ?_
  refine xm_E_s r_X3_placeOf_78 rfl rfl ?_
  exact xm_E_iret r_X3_placeOf_79 rfl rfl
theorem p_X3_placeOf_21_6 {X : xm_X} {P : List xm_M} {d : Nat} {h : xm_H} {l0 : Nat} {l1 : Int32} {l2 : Int32} {l3 : Int32} {l4 : Int32} (q0 : X.1[l0]? = some (.inr 3)) (q1 : ¬ (h.1 l0 14 < (640 : Int32))) : xm_E X P d co_X3_placeOf 21 [some (.ref l0), some (.int l1), some (.int l2), some (.int l3), some (.int l4), none] [] h (some (.int (-1 : Int32))) h := by
  refine xm_E_s r_X3_placeOf_21 rfl rfl ?_
  refine xm_E_s r_X3_placeOf_22 rfl (xm_T_gi rfl q0 rfl (Or.inl rfl)) ?_
  refine xm_E_s r_X3_placeOf_23 rfl rfl ?_
  refine xm_E_s r_X3_placeOf_24 rfl rfl ?_
  refine xm_E_f q1 ?_
  refine xm_E_s r_X3_placeOf_25 rfl rfl ?_
  exact xm_E_iret r_X3_placeOf_26 rfl rfl
theorem r_X3_spotOf_0 : co_X3_spotOf[0]? = some ((0, .iload_n 1, 0, 0, 0, 0, 0, 0, []) : xm_I) := rfl
theorem r_X3_spotOf_1 : co_X3_spotOf[1]? = some ((1, .invokestatic 99, 907, 40, 1, 0, 0, 0, []) : xm_I) := rfl
theorem r_X3_spotOf_2 : co_X3_spotOf[2]? = some ((4, .iconst 2, 0, 0, 0, 0, 2, 0, []) : xm_I) := rfl
theorem r_X3_spotOf_3 : co_X3_spotOf[3]? = some ((5, .imul, 0, 0, 0, 0, 0, 0, []) : xm_I) := rfl
theorem r_X3_spotOf_4 : co_X3_spotOf[4]? = some ((6, .iload_n 1, 0, 0, 0, 0, 0, 0, []) : xm_I) := rfl
theorem r_X3_spotOf_5 : co_X3_spotOf[5]? = some ((7, .invokestatic 102, 908, 41, 1, 0, 0, 0, []) : xm_I) := rfl
theorem r_X3_spotOf_6 : co_X3_spotOf[6]? = some ((10, .iadd, 0, 0, 0, 0, 0, 0, []) : xm_I) := rfl
theorem r_X3_spotOf_7 : co_X3_spotOf[7]? = some ((11, .istore_n 3, 0, 0, 0, 0, 0, 0, []) : xm_I) := rfl
theorem r_X3_spotOf_8 : co_X3_spotOf[8]? = some ((12, .iload_n 1, 0, 0, 0, 0, 0, 0, []) : xm_I) := rfl
theorem r_X3_spotOf_9 : co_X3_spotOf[9]? = some ((13, .invokestatic 105, 909, 42, 1, 0, 0, 0, []) : xm_I) := rfl
theorem r_X3_spotOf_10 : co_X3_spotOf[10]? = some ((16, .ifCond .ne 22, 0, 0, 21, 0, 0, 0, []) : xm_I) := rfl
theorem r_X3_spotOf_11 : co_X3_spotOf[11]? = some ((19, .iload_n 2, 0, 0, 0, 0, 0, 0, []) : xm_I) := rfl
theorem r_X3_spotOf_12 : co_X3_spotOf[12]? = some ((20, .ifCond .lt 18, 0, 0, 21, 0, 0, 0, []) : xm_I) := rfl
theorem r_X3_spotOf_13 : co_X3_spotOf[13]? = some ((23, .iload_n 2, 0, 0, 0, 0, 0, 0, []) : xm_I) := rfl
theorem r_X3_spotOf_14 : co_X3_spotOf[14]? = some ((24, .aload_n 0, 0, 0, 0, 0, 0, 0, []) : xm_I) := rfl
theorem r_X3_spotOf_15 : co_X3_spotOf[15]? = some ((25, .getfield 9, 340, 3, 0, 2, 0, 0, []) : xm_I) := rfl
theorem r_X3_spotOf_16 : co_X3_spotOf[16]? = some ((28, .arraylength, 0, 0, 0, 0, 0, 0, []) : xm_I) := rfl
theorem r_X3_spotOf_17 : co_X3_spotOf[17]? = some ((29, .if_icmp .ge 9, 0, 0, 21, 0, 0, 0, []) : xm_I) := rfl
theorem r_X3_spotOf_18 : co_X3_spotOf[18]? = some ((32, .iload_n 3, 0, 0, 0, 0, 0, 0, []) : xm_I) := rfl
theorem r_X3_spotOf_19 : co_X3_spotOf[19]? = some ((33, .bipush 10, 0, 0, 0, 0, 10, 0, []) : xm_I) := rfl
theorem r_X3_spotOf_20 : co_X3_spotOf[20]? = some ((35, .if_icmp .lt 5, 0, 0, 23, 0, 0, 0, []) : xm_I) := rfl
theorem r_X3_spotOf_21 : co_X3_spotOf[21]? = some ((38, .iconst (-1), 0, 0, 0, 0, (-1), 0, []) : xm_I) := rfl
theorem r_X3_spotOf_22 : co_X3_spotOf[22]? = some ((39, .ireturn, 0, 0, 0, 0, 0, 0, []) : xm_I) := rfl
theorem r_X3_spotOf_23 : co_X3_spotOf[23]? = some ((40, .aload_n 0, 0, 0, 0, 0, 0, 0, []) : xm_I) := rfl
theorem r_X3_spotOf_24 : co_X3_spotOf[24]? = some ((41, .getfield 9, 340, 3, 0, 2, 0, 0, []) : xm_I) := rfl
theorem r_X3_spotOf_25 : co_X3_spotOf[25]? = some ((44, .iload_n 2, 0, 0, 0, 0, 0, 0, []) : xm_I) := rfl
theorem r_X3_spotOf_26 : co_X3_spotOf[26]? = some ((45, .iaload, 0, 0, 0, 0, 0, 0, []) : xm_I) := rfl
theorem r_X3_spotOf_27 : co_X3_spotOf[27]? = some ((46, .ifCond .ne 33, 0, 0, 44, 0, 0, 0, []) : xm_I) := rfl
theorem r_X3_spotOf_28 : co_X3_spotOf[28]? = some ((49, .aload_n 0, 0, 0, 0, 0, 0, 0, []) : xm_I) := rfl
theorem r_X3_spotOf_29 : co_X3_spotOf[29]? = some ((50, .getfield 80, 356, 3, 15, 0, 0, 0, []) : xm_I) := rfl
theorem r_X3_spotOf_30 : co_X3_spotOf[30]? = some ((53, .sipush 144, 0, 0, 0, 0, 144, 0, []) : xm_I) := rfl
theorem r_X3_spotOf_31 : co_X3_spotOf[31]? = some ((56, .if_icmp .ge 23, 0, 0, 44, 0, 0, 0, []) : xm_I) := rfl
theorem r_X3_spotOf_32 : co_X3_spotOf[32]? = some ((59, .aload_n 0, 0, 0, 0, 0, 0, 0, []) : xm_I) := rfl
theorem r_X3_spotOf_33 : co_X3_spotOf[33]? = some ((60, .dup, 0, 0, 0, 0, 0, 0, []) : xm_I) := rfl
theorem r_X3_spotOf_34 : co_X3_spotOf[34]? = some ((61, .getfield 80, 356, 3, 15, 0, 0, 0, []) : xm_I) := rfl
theorem r_X3_spotOf_35 : co_X3_spotOf[35]? = some ((64, .iconst 1, 0, 0, 0, 0, 1, 0, []) : xm_I) := rfl
theorem r_X3_spotOf_36 : co_X3_spotOf[36]? = some ((65, .iadd, 0, 0, 0, 0, 0, 0, []) : xm_I) := rfl
theorem r_X3_spotOf_37 : co_X3_spotOf[37]? = some ((66, .putfield 80, 356, 3, 15, 0, 0, 0, []) : xm_I) := rfl
theorem r_X3_spotOf_38 : co_X3_spotOf[38]? = some ((69, .aload_n 0, 0, 0, 0, 0, 0, 0, []) : xm_I) := rfl
theorem r_X3_spotOf_39 : co_X3_spotOf[39]? = some ((70, .getfield 9, 340, 3, 0, 2, 0, 0, []) : xm_I) := rfl
theorem r_X3_spotOf_40 : co_X3_spotOf[40]? = some ((73, .iload_n 2, 0, 0, 0, 0, 0, 0, []) : xm_I) := rfl
theorem r_X3_spotOf_41 : co_X3_spotOf[41]? = some ((74, .aload_n 0, 0, 0, 0, 0, 0, 0, []) : xm_I) := rfl
theorem r_X3_spotOf_42 : co_X3_spotOf[42]? = some ((75, .getfield 80, 356, 3, 15, 0, 0, 0, []) : xm_I) := rfl
theorem r_X3_spotOf_43 : co_X3_spotOf[43]? = some ((78, .iastore, 0, 0, 0, 0, 0, 0, []) : xm_I) := rfl
theorem r_X3_spotOf_44 : co_X3_spotOf[44]? = some ((79, .aload_n 0, 0, 0, 0, 0, 0, 0, []) : xm_I) := rfl
theorem r_X3_spotOf_45 : co_X3_spotOf[45]? = some ((80, .getfield 9, 340, 3, 0, 2, 0, 0, []) : xm_I) := rfl
theorem r_X3_spotOf_46 : co_X3_spotOf[46]? = some ((83, .iload_n 2, 0, 0, 0, 0, 0, 0, []) : xm_I) := rfl
theorem r_X3_spotOf_47 : co_X3_spotOf[47]? = some ((84, .iaload, 0, 0, 0, 0, 0, 0, []) : xm_I) := rfl
theorem r_X3_spotOf_48 : co_X3_spotOf[48]? = some ((85, .iconst 1, 0, 0, 0, 0, 1, 0, []) : xm_I) := rfl
theorem r_X3_spotOf_49 : co_X3_spotOf[49]? = some ((86, .isub, 0, 0, 0, 0, 0, 0, []) : xm_I) := rfl
theorem r_X3_spotOf_50 : co_X3_spotOf[50]? = some ((87, .bipush 10, 0, 0, 0, 0, 10, 0, []) : xm_I) := rfl
theorem r_X3_spotOf_51 : co_X3_spotOf[51]? = some ((89, .imul, 0, 0, 0, 0, 0, 0, []) : xm_I) := rfl
theorem r_X3_spotOf_52 : co_X3_spotOf[52]? = some ((90, .iload_n 3, 0, 0, 0, 0, 0, 0, []) : xm_I) := rfl
theorem r_X3_spotOf_53 : co_X3_spotOf[53]? = some ((91, .iadd, 0, 0, 0, 0, 0, 0, []) : xm_I) := rfl
theorem r_X3_spotOf_54 : co_X3_spotOf[54]? = some ((92, .istore 4, 0, 0, 0, 0, 0, 0, []) : xm_I) := rfl
theorem r_X3_spotOf_55 : co_X3_spotOf[55]? = some ((94, .iload 4, 0, 0, 0, 0, 0, 0, []) : xm_I) := rfl
theorem r_X3_spotOf_56 : co_X3_spotOf[56]? = some ((96, .ifCond .lt 18, 0, 0, 64, 0, 0, 0, []) : xm_I) := rfl
theorem r_X3_spotOf_57 : co_X3_spotOf[57]? = some ((99, .iload 4, 0, 0, 0, 0, 0, 0, []) : xm_I) := rfl
theorem r_X3_spotOf_58 : co_X3_spotOf[58]? = some ((101, .aload_n 0, 0, 0, 0, 0, 0, 0, []) : xm_I) := rfl
theorem r_X3_spotOf_59 : co_X3_spotOf[59]? = some ((102, .getfield 15, 341, 3, 1, 2, 0, 0, []) : xm_I) := rfl
theorem r_X3_spotOf_60 : co_X3_spotOf[60]? = some ((105, .arraylength, 0, 0, 0, 0, 0, 0, []) : xm_I) := rfl
theorem r_X3_spotOf_61 : co_X3_spotOf[61]? = some ((106, .if_icmp .ge 8, 0, 0, 64, 0, 0, 0, []) : xm_I) := rfl
theorem r_X3_spotOf_62 : co_X3_spotOf[62]? = some ((109, .iload 4, 0, 0, 0, 0, 0, 0, []) : xm_I) := rfl
theorem r_X3_spotOf_63 : co_X3_spotOf[63]? = some ((111, .goto 4, 0, 0, 65, 0, 0, 0, []) : xm_I) := rfl
theorem r_X3_spotOf_64 : co_X3_spotOf[64]? = some ((114, .iconst (-1), 0, 0, 0, 0, (-1), 0, []) : xm_I) := rfl
theorem r_X3_spotOf_65 : co_X3_spotOf[65]? = some ((115, .ireturn, 0, 0, 0, 0, 0, 0, []) : xm_I) := rfl
theorem p_X3_spotOf_0_0 {X : xm_X} {P : List xm_M} {d : Nat} {h : xm_H} {l0 : Nat} {l1 : Int32} {l2 : Int32} {h0 : xm_H} {r0 : Int32} {h1 : xm_H} {r1 : Int32} {h2 : xm_H} {r2 : Int32} (q0 : xm_V X P d 40 [.int l1] h (some (.int r0)) h0) (q1 : xm_V X P d 41 [.int l1] h0 (some (.int r1)) h1) (q2 : xm_V X P d 42 [.int l1] h1 (some (.int r2)) h2) (q3 : r2 = (0 : Int32)) (q4 : l2 < (0 : Int32)) : xm_E X P d co_X3_spotOf 0 [some (.ref l0), some (.int l1), some (.int l2), none, none] [] h (some (.int (-1 : Int32))) h2 := by
  refine xm_E_s r_X3_spotOf_0 rfl rfl ?_
  refine xm_E_cs [.int l1] [] r_X3_spotOf_1 rfl rfl rfl (Nat.le_of_ble_eq_true rfl) rfl q0 ?_
  refine xm_E_s r_X3_spotOf_2 rfl rfl ?_
  refine xm_E_s r_X3_spotOf_3 rfl rfl ?_
  refine xm_E_s r_X3_spotOf_4 rfl rfl ?_
  refine xm_E_cs [.int l1] [.int (r0 * (2 : Int32))] r_X3_spotOf_5 rfl rfl rfl (Nat.le_of_ble_eq_true rfl) rfl q1 ?_
  refine xm_E_s r_X3_spotOf_6 rfl rfl ?_
  refine xm_E_s (ls1 := [some (.ref l0), some (.int l1), some (.int l2), some (.int ((r0 * (2 : Int32)) + r1)), none]) r_X3_spotOf_7 rfl rfl ?_
  refine xm_E_s r_X3_spotOf_8 rfl rfl ?_
  refine xm_E_cs [.int l1] [] r_X3_spotOf_9 rfl rfl rfl (Nat.le_of_ble_eq_true rfl) rfl q2 ?_
  refine xm_E_s r_X3_spotOf_10 rfl rfl ?_
  refine xm_E_t q3 ?_
  refine xm_E_s r_X3_spotOf_11 rfl rfl ?_
  refine xm_E_s r_X3_spotOf_12 rfl rfl ?_
  refine xm_E_t q4 ?_
  refine xm_E_s r_X3_spotOf_21 rfl rfl ?_
  exact xm_E_iret r_X3_spotOf_22 rfl rfl
theorem p_X3_spotOf_0_1 {X : xm_X} {P : List xm_M} {d : Nat} {h : xm_H} {l0 : Nat} {l1 : Int32} {l2 : Int32} {h0 : xm_H} {r0 : Int32} {h1 : xm_H} {r1 : Int32} {h2 : xm_H} {r2 : Int32} {v3 : Nat} {n4 : Nat} (q0 : xm_V X P d 40 [.int l1] h (some (.int r0)) h0) (q1 : xm_V X P d 41 [.int l1] h0 (some (.int r1)) h1) (q2 : xm_V X P d 42 [.int l1] h1 (some (.int r2)) h2) (q3 : r2 = (0 : Int32)) (q4 : ¬ (l2 < (0 : Int32))) (q5 : X.1[l0]? = some (.inr 3)) (q6 : h2.2.2 l0 0 = some v3) (q7 : X.1[v3]? = some (.inl (0, n4))) (q8 : Int32.ofNat n4 ≤ l2) : xm_E X P d co_X3_spotOf 0 [some (.ref l0), some (.int l1), some (.int l2), none, none] [] h (some (.int (-1 : Int32))) h2 := by
  refine xm_E_s r_X3_spotOf_0 rfl rfl ?_
  refine xm_E_cs [.int l1] [] r_X3_spotOf_1 rfl rfl rfl (Nat.le_of_ble_eq_true rfl) rfl q0 ?_
  refine xm_E_s r_X3_spotOf_2 rfl rfl ?_
  refine xm_E_s r_X3_spotOf_3 rfl rfl ?_
  refine xm_E_s r_X3_spotOf_4 rfl rfl ?_
  refine xm_E_cs [.int l1] [.int (r0 * (2 : Int32))] r_X3_spotOf_5 rfl rfl rfl (Nat.le_of_ble_eq_true rfl) rfl q1 ?_
  refine xm_E_s r_X3_spotOf_6 rfl rfl ?_
  refine xm_E_s (ls1 := [some (.ref l0), some (.int l1), some (.int l2), some (.int ((r0 * (2 : Int32)) + r1)), none]) r_X3_spotOf_7 rfl rfl ?_
  refine xm_E_s r_X3_spotOf_8 rfl rfl ?_
  refine xm_E_cs [.int l1] [] r_X3_spotOf_9 rfl rfl rfl (Nat.le_of_ble_eq_true rfl) rfl q2 ?_
  refine xm_E_s r_X3_spotOf_10 rfl rfl ?_
  refine xm_E_t q3 ?_
  refine xm_E_s r_X3_spotOf_11 rfl rfl ?_
  refine xm_E_s r_X3_spotOf_12 rfl rfl ?_
  refine xm_E_f q4 ?_
  refine xm_E_s r_X3_spotOf_13 rfl rfl ?_
  refine xm_E_s r_X3_spotOf_14 rfl rfl ?_
  refine xm_E_s r_X3_spotOf_15 rfl (xm_T_gr rfl q5 rfl rfl q6) ?_
  refine xm_E_s r_X3_spotOf_16 rfl (xm_T_alen rfl q7 (by decide)) ?_
  refine xm_E_s r_X3_spotOf_17 rfl rfl ?_
  refine xm_E_t q8 ?_
  refine xm_E_s r_X3_spotOf_21 rfl rfl ?_
  exact xm_E_iret r_X3_spotOf_22 rfl rfl
theorem p_X3_spotOf_0_2 {X : xm_X} {P : List xm_M} {d : Nat} {h : xm_H} {l0 : Nat} {l1 : Int32} {l2 : Int32} {h0 : xm_H} {r0 : Int32} {h1 : xm_H} {r1 : Int32} {h2 : xm_H} {r2 : Int32} {v3 : Nat} {n4 : Nat} (q0 : xm_V X P d 40 [.int l1] h (some (.int r0)) h0) (q1 : xm_V X P d 41 [.int l1] h0 (some (.int r1)) h1) (q2 : xm_V X P d 42 [.int l1] h1 (some (.int r2)) h2) (q3 : r2 = (0 : Int32)) (q4 : ¬ (l2 < (0 : Int32))) (q5 : X.1[l0]? = some (.inr 3)) (q6 : h2.2.2 l0 0 = some v3) (q7 : X.1[v3]? = some (.inl (0, n4))) (q8 : ¬ (Int32.ofNat n4 ≤ l2)) (q9 : (r0 * (2 : Int32)) + r1 < (10 : Int32)) (q10 : ¬ (l2 < 0 ∨ n4 ≤ l2.toNatClampNeg)) (q11 : h2.1 v3 l2.toNatClampNeg = (0 : Int32)) (q12 : (144 : Int32) ≤ h2.1 l0 15) (q13 : (((h2.1 v3 l2.toNatClampNeg) - (1 : Int32)) * (10 : Int32)) + ((r0 * (2 : Int32)) + r1) < (0 : Int32)) : xm_E X P d co_X3_spotOf 0 [some (.ref l0), some (.int l1), some (.int l2), none, none] [] h (some (.int (-1 : Int32))) h2 := by
  refine xm_E_s r_X3_spotOf_0 rfl rfl ?_
  refine xm_E_cs [.int l1] [] r_X3_spotOf_1 rfl rfl rfl (Nat.le_of_ble_eq_true rfl) rfl q0 ?_
  refine xm_E_s r_X3_spotOf_2 rfl rfl ?_
  refine xm_E_s r_X3_spotOf_3 rfl rfl ?_
  refine xm_E_s r_X3_spotOf_4 rfl rfl ?_
  refine xm_E_cs [.int l1] [.int (r0 * (2 : Int32))] r_X3_spotOf_5 rfl rfl rfl (Nat.le_of_ble_eq_true rfl) rfl q1 ?_
  refine xm_E_s r_X3_spotOf_6 rfl rfl ?_
  refine xm_E_s (ls1 := [some (.ref l0), some (.int l1), some (.int l2), some (.int ((r0 * (2 : Int32)) + r1)), none]) r_X3_spotOf_7 rfl rfl ?_
  refine xm_E_s r_X3_spotOf_8 rfl rfl ?_
  refine xm_E_cs [.int l1] [] r_X3_spotOf_9 rfl rfl rfl (Nat.le_of_ble_eq_true rfl) rfl q2 ?_
  refine xm_E_s r_X3_spotOf_10 rfl rfl ?_
  refine xm_E_t q3 ?_
  refine xm_E_s r_X3_spotOf_11 rfl rfl ?_
  refine xm_E_s r_X3_spotOf_12 rfl rfl ?_
  refine xm_E_f q4 ?_
  refine xm_E_s r_X3_spotOf_13 rfl rfl ?_
  refine xm_E_s r_X3_spotOf_14 rfl rfl ?_
  refine xm_E_s r_X3_spotOf_15 rfl (xm_T_gr rfl q5 rfl rfl q6) ?_
  refine xm_E_s r_X3_spotOf_16 rfl (xm_T_alen rfl q7 (by decide)) ?_
  refine xm_E_s r_X3_spotOf_17 rfl rfl ?_
  refine xm_E_f q8 ?_
  refine xm_E_s r_X3_spotOf_18 rfl rfl ?_
  refine xm_E_s r_X3_spotOf_19 rfl rfl ?_
  refine xm_E_s r_X3_spotOf_20 rfl rfl ?_
  refine xm_E_t q9 ?_
  refine xm_E_s r_X3_spotOf_23 rfl rfl ?_
  refine xm_E_s r_X3_spotOf_24 rfl (xm_T_gr rfl q5 rfl rfl q6) ?_
  refine xm_E_s r_X3_spotOf_25 rfl rfl ?_
  refine xm_E_s r_X3_spotOf_26 rfl (xm_T_iald rfl q7 (by decide) q10) ?_
  refine xm_E_s r_X3_spotOf_27 rfl rfl ?_
  refine xm_E_t q11 ?_
  refine xm_E_s r_X3_spotOf_28 rfl rfl ?_
  refine xm_E_s r_X3_spotOf_29 rfl (xm_T_gi rfl q5 rfl (Or.inl rfl)) ?_
  refine xm_E_s r_X3_spotOf_30 rfl rfl ?_
  refine xm_E_s r_X3_spotOf_31 rfl rfl ?_
  refine xm_E_t q12 ?_
  refine xm_E_s r_X3_spotOf_44 rfl rfl ?_
  refine xm_E_s r_X3_spotOf_45 rfl (xm_T_gr rfl q5 rfl rfl q6) ?_
  refine xm_E_s r_X3_spotOf_46 rfl rfl ?_
  refine xm_E_s r_X3_spotOf_47 rfl (xm_T_iald rfl q7 (by decide) q10) ?_
  refine xm_E_s r_X3_spotOf_48 rfl rfl ?_
  refine xm_E_s r_X3_spotOf_49 rfl rfl ?_
  refine xm_E_s r_X3_spotOf_50 rfl rfl ?_
  refine xm_E_s r_X3_spotOf_51 rfl rfl ?_
  refine xm_E_s r_X3_spotOf_52 rfl rfl ?_
  refine xm_E_s r_X3_spotOf_53 rfl rfl ?_
  refine xm_E_s (ls1 := [some (.ref l0), some (.int l1), some (.int l2), some (.int ((r0 * (2 : Int32)) + r1)), some (.int ((((h2.1 v3 l2.toNatClampNeg) - (1 : Int32)) * (10 : Int32)) + ((r0 * (2 : Int32)) + r1)))]) r_X3_spotOf_54 rfl rfl ?_
  refine xm_E_s r_X3_spotOf_55 rfl rfl ?_
  refine xm_E_s r_X3_spotOf_56 rfl rfl ?_
  refine xm_E_t q13 ?_
  refine xm_E_s r_X3_spotOf_64 rfl rfl ?_
  exact xm_E_iret r_X3_spotOf_65 rfl rfl
theorem p_X3_spotOf_0_3 {X : xm_X} {P : List xm_M} {d : Nat} {h : xm_H} {l0 : Nat} {l1 : Int32} {l2 : Int32} {h0 : xm_H} {r0 : Int32} {h1 : xm_H} {r1 : Int32} {h2 : xm_H} {r2 : Int32} {v3 : Nat} {n4 : Nat} {v5 : Nat} {n6 : Nat} (q0 : xm_V X P d 40 [.int l1] h (some (.int r0)) h0) (q1 : xm_V X P d 41 [.int l1] h0 (some (.int r1)) h1) (q2 : xm_V X P d 42 [.int l1] h1 (some (.int r2)) h2) (q3 : r2 = (0 : Int32)) (q4 : ¬ (l2 < (0 : Int32))) (q5 : X.1[l0]? = some (.inr 3)) (q6 : h2.2.2 l0 0 = some v3) (q7 : X.1[v3]? = some (.inl (0, n4))) (q8 : ¬ (Int32.ofNat n4 ≤ l2)) (q9 : (r0 * (2 : Int32)) + r1 < (10 : Int32)) (q10 : ¬ (l2 < 0 ∨ n4 ≤ l2.toNatClampNeg)) (q11 : h2.1 v3 l2.toNatClampNeg = (0 : Int32)) (q12 : (144 : Int32) ≤ h2.1 l0 15) (q13 : ¬ ((((h2.1 v3 l2.toNatClampNeg) - (1 : Int32)) * (10 : Int32)) + ((r0 * (2 : Int32)) + r1) < (0 : Int32))) (q14 : h2.2.2 l0 1 = some v5) (q15 : X.1[v5]? = some (.inl (0, n6))) (q16 : Int32.ofNat n6 ≤ (((h2.1 v3 l2.toNatClampNeg) - (1 : Int32)) * (10 : Int32)) + ((r0 * (2 : Int32)) + r1)) : xm_E X P d co_X3_spotOf 0 [some (.ref l0), some (.int l1), some (.int l2), none, none] [] h (some (.int (-1 : Int32))) h2 := by
  refine xm_E_s r_X3_spotOf_0 rfl rfl ?_
  refine xm_E_cs [.int l1] [] r_X3_spotOf_1 rfl rfl rfl (Nat.le_of_ble_eq_true rfl) rfl q0 ?_
  refine xm_E_s r_X3_spotOf_2 rfl rfl ?_
  refine xm_E_s r_X3_spotOf_3 rfl rfl ?_
  refine xm_E_s r_X3_spotOf_4 rfl rfl ?_
  refine xm_E_cs [.int l1] [.int (r0 * (2 : Int32))] r_X3_spotOf_5 rfl rfl rfl (Nat.le_of_ble_eq_true rfl) rfl q1 ?_
  refine xm_E_s r_X3_spotOf_6 rfl rfl ?_
  refine xm_E_s (ls1 := [some (.ref l0), some (.int l1), some (.int l2), some (.int ((r0 * (2 : Int32)) + r1)), none]) r_X3_spotOf_7 rfl rfl ?_
  refine xm_E_s r_X3_spotOf_8 rfl rfl ?_
  refine xm_E_cs [.int l1] [] r_X3_spotOf_9 rfl rfl rfl (Nat.le_of_ble_eq_true rfl) rfl q2 ?_
  refine xm_E_s r_X3_spotOf_10 rfl rfl ?_
  refine xm_E_t q3 ?_
  refine xm_E_s r_X3_spotOf_11 rfl rfl ?_
  refine xm_E_s r_X3_spotOf_12 rfl rfl ?_
  refine xm_E_f q4 ?_
  refine xm_E_s r_X3_spotOf_13 rfl rfl ?_
  refine xm_E_s r_X3_spotOf_14 rfl rfl ?_
  refine xm_E_s r_X3_spotOf_15 rfl (xm_T_gr rfl q5 rfl rfl q6) ?_
  refine xm_E_s r_X3_spotOf_16 rfl (xm_T_alen rfl q7 (by decide)) ?_
  refine xm_E_s r_X3_spotOf_17 rfl rfl ?_
  refine xm_E_f q8 ?_
  refine xm_E_s r_X3_spotOf_18 rfl rfl ?_
  refine xm_E_s r_X3_spotOf_19 rfl rfl ?_
  refine xm_E_s r_X3_spotOf_20 rfl rfl ?_
  refine xm_E_t q9 ?_
  refine xm_E_s r_X3_spotOf_23 rfl rfl ?_
  refine xm_E_s r_X3_spotOf_24 rfl (xm_T_gr rfl q5 rfl rfl q6) ?_
  refine xm_E_s r_X3_spotOf_25 rfl rfl ?_
  refine xm_E_s r_X3_spotOf_26 rfl (xm_T_iald rfl q7 (by decide) q10) ?_
  refine xm_E_s r_X3_spotOf_27 rfl rfl ?_
  refine xm_E_t q11 ?_
  refine xm_E_s r_X3_spotOf_28 rfl rfl ?_
  refine xm_E_s r_X3_spotOf_29 rfl (xm_T_gi rfl q5 rfl (Or.inl rfl)) ?_
  refine xm_E_s r_X3_spotOf_30 rfl rfl ?_
  refine xm_E_s r_X3_spotOf_31 rfl rfl ?_
  refine xm_E_t q12 ?_
  refine xm_E_s r_X3_spotOf_44 rfl rfl ?_
  refine xm_E_s r_X3_spotOf_45 rfl (xm_T_gr rfl q5 rfl rfl q6) ?_
  refine xm_E_s r_X3_spotOf_46 rfl rfl ?_
  refine xm_E_s r_X3_spotOf_47 rfl (xm_T_iald rfl q7 (by decide) q10) ?_
  refine xm_E_s r_X3_spotOf_48 rfl rfl ?_
  refine xm_E_s r_X3_spotOf_49 rfl rfl ?_
  refine xm_E_s r_X3_spotOf_50 rfl rfl ?_
  refine xm_E_s r_X3_spotOf_51 rfl rfl ?_
  refine xm_E_s r_X3_spotOf_52 rfl rfl ?_
  refine xm_E_s r_X3_spotOf_53 rfl rfl ?_
  refine xm_E_s (ls1 := [some (.ref l0), some (.int l1), some (.int l2), some (.int ((r0 * (2 : Int32)) + r1)), some (.int ((((h2.1 v3 l2.toNatClampNeg) - (1 : Int32)) * (10 : Int32)) + ((r0 * (2 : Int32)) + r1)))]) r_X3_spotOf_54 rfl rfl ?_
  refine xm_E_s r_X3_spotOf_55 rfl rfl ?_
  refine xm_E_s r_X3_spotOf_56 rfl rfl ?_
  refine xm_E_f q13 ?_
  refine xm_E_s r_X3_spotOf_57 rfl rfl ?_
  refine xm_E_s r_X3_spotOf_58 rfl rfl ?_
  refine xm_E_s r_X3_spotOf_59 rfl (xm_T_gr rfl q5 rfl rfl q14) ?_
  refine xm_E_s r_X3_spotOf_60 rfl (xm_T_alen rfl q15 (by decide)) ?_
  refine xm_E_s r_X3_spotOf_61 rfl rfl ?_
  refine xm_E_t q16 ?_
  refine xm_E_s r_X3_spotOf_64 rfl rfl ?_
  exact xm_E_iret r_X3_spotOf_65 rfl rfl
theorem p_X3_spotOf_0_4 {X : xm_X} {P : List xm_M} {d : Nat} {h : xm_H} {l0 : Nat} {l1 : Int32} {l2 : Int32} {h0 : xm_H} {r0 : Int32} {h1 : xm_H} {r1 : Int32} {h2 : xm_H} {r2 : Int32} {v3 : Nat} {n4 : Nat} {v5 : Nat} {n6 : Nat} (q0 : xm_V X P d 40 [.int l1] h (some (.int r0)) h0) (q1 : xm_V X P d 41 [.int l1] h0 (some (.int r1)) h1) (q2 : xm_V X P d 42 [.int l1] h1 (some (.int r2)) h2) (q3 : r2 = (0 : Int32)) (q4 : ¬ (l2 < (0 : Int32))) (q5 : X.1[l0]? = some (.inr 3)) (q6 : h2.2.2 l0 0 = some v3) (q7 : X.1[v3]? = some (.inl (0, n4))) (q8 : ¬ (Int32.ofNat n4 ≤ l2)) (q9 : (r0 * (2 : Int32)) + r1 < (10 : Int32)) (q10 : ¬ (l2 < 0 ∨ n4 ≤ l2.toNatClampNeg)) (q11 : h2.1 v3 l2.toNatClampNeg = (0 : Int32)) (q12 : (144 : Int32) ≤ h2.1 l0 15) (q13 : ¬ ((((h2.1 v3 l2.toNatClampNeg) - (1 : Int32)) * (10 : Int32)) + ((r0 * (2 : Int32)) + r1) < (0 : Int32))) (q14 : h2.2.2 l0 1 = some v5) (q15 : X.1[v5]? = some (.inl (0, n6))) (q16 : ¬ (Int32.ofNat n6 ≤ (((h2.1 v3 l2.toNatClampNeg) - (1 : Int32)) * (10 : Int32)) + ((r0 * (2 : Int32)) + r1))) : xm_E X P d co_X3_spotOf 0 [some (.ref l0), some (.int l1), some (.int l2), none, none] [] h (some (.int ((((h2.1 v3 l2.toNatClampNeg) - (1 : Int32)) * (10 : Int32)) + ((r0 * (2 : Int32)) + r1)))) h2 := by
  refine xm_E_s r_X3_spotOf_0 rfl rfl ?_
  refine xm_E_cs [.int l1] [] r_X3_spotOf_1 rfl rfl rfl (Nat.le_of_ble_eq_true rfl) rfl q0 ?_
  refine xm_E_s r_X3_spotOf_2 rfl rfl ?_
  refine xm_E_s r_X3_spotOf_3 rfl rfl ?_
  refine xm_E_s r_X3_spotOf_4 rfl rfl ?_
  refine xm_E_cs [.int l1] [.int (r0 * (2 : Int32))] r_X3_spotOf_5 rfl rfl rfl (Nat.le_of_ble_eq_true rfl) rfl q1 ?_
  refine xm_E_s r_X3_spotOf_6 rfl rfl ?_
  refine xm_E_s (ls1 := [some (.ref l0), some (.int l1), some (.int l2), some (.int ((r0 * (2 : Int32)) + r1)), none]) r_X3_spotOf_7 rfl rfl ?_
  refine xm_E_s r_X3_spotOf_8 rfl rfl ?_
  refine xm_E_cs [.int l1] [] r_X3_spotOf_9 rfl rfl rfl (Nat.le_of_ble_eq_true rfl) rfl q2 ?_
  refine xm_E_s r_X3_spotOf_10 rfl rfl ?_
  refine xm_E_t q3 ?_
  refine xm_E_s r_X3_spotOf_11 rfl rfl ?_
  refine xm_E_s r_X3_spotOf_12 rfl rfl ?_
  refine xm_E_f q4 ?_
  refine xm_E_s r_X3_spotOf_13 rfl rfl ?_
  refine xm_E_s r_X3_spotOf_14 rfl rfl ?_
  refine xm_E_s r_X3_spotOf_15 rfl (xm_T_gr rfl q5 rfl rfl q6) ?_
  refine xm_E_s r_X3_spotOf_16 rfl (xm_T_alen rfl q7 (by decide)) ?_
  refine xm_E_s r_X3_spotOf_17 rfl rfl ?_
  refine xm_E_f q8 ?_
  refine xm_E_s r_X3_spotOf_18 rfl rfl ?_
  refine xm_E_s r_X3_spotOf_19 rfl rfl ?_
  refine xm_E_s r_X3_spotOf_20 rfl rfl ?_
  refine xm_E_t q9 ?_
  refine xm_E_s r_X3_spotOf_23 rfl rfl ?_
  refine xm_E_s r_X3_spotOf_24 rfl (xm_T_gr rfl q5 rfl rfl q6) ?_
  refine xm_E_s r_X3_spotOf_25 rfl rfl ?_
  refine xm_E_s r_X3_spotOf_26 rfl (xm_T_iald rfl q7 (by decide) q10) ?_
  refine xm_E_s r_X3_spotOf_27 rfl rfl ?_
  refine xm_E_t q11 ?_
  refine xm_E_s r_X3_spotOf_28 rfl rfl ?_
  refine xm_E_s r_X3_spotOf_29 rfl (xm_T_gi rfl q5 rfl (Or.inl rfl)) ?_
  refine xm_E_s r_X3_spotOf_30 rfl rfl ?_
  refine xm_E_s r_X3_spotOf_31 rfl rfl ?_
  refine xm_E_t q12 ?_
  refine xm_E_s r_X3_spotOf_44 rfl rfl ?_
  refine xm_E_s r_X3_spotOf_45 rfl (xm_T_gr rfl q5 rfl rfl q6) ?_
  refine xm_E_s r_X3_spotOf_46 rfl rfl ?_
  refine xm_E_s r_X3_spotOf_47 rfl (xm_T_iald rfl q7 (by decide) q10) ?_
  refine xm_E_s r_X3_spotOf_48 rfl rfl ?_
  refine xm_E_s r_X3_spotOf_49 rfl rfl ?_
  refine xm_E_s r_X3_spotOf_50 rfl rfl ?_
  refine xm_E_s r_X3_spotOf_51 rfl rfl ?_
  refine xm_E_s r_X3_spotOf_52 rfl rfl ?_
  refine xm_E_s r_X3_spotOf_53 rfl rfl ?_
  refine xm_E_s (ls1 := [some (.ref l0), some (.int l1), some (.int l2), some (.int ((r0 * (2 : Int32)) + r1)), some (.int ((((h2.1 v3 l2.toNatClampNeg) - (1 : Int32)) * (10 : Int32)) + ((r0 * (2 : Int32)) + r1)))]) r_X3_spotOf_54 rfl rfl ?_
  refine xm_E_s r_X3_spotOf_55 rfl rfl ?_
  refine xm_E_s r_X3_spotOf_56 rfl rfl ?_
  refine xm_E_f q13 ?_
  refine xm_E_s r_X3_spotOf_57 rfl rfl ?_
  refine xm_E_s r_X3_spotOf_58 rfl rfl ?_
  refine xm_E_s r_X3_spotOf_59 rfl (xm_T_gr rfl q5 rfl rfl q14) ?_
  refine xm_E_s r_X3_spotOf_60 rfl (xm_T_alen rfl q15 (by decide)) ?_
  refine xm_E_s r_X3_spotOf_61 rfl rfl ?_
  refine xm_E_f q16 ?_
  refine xm_E_s r_X3_spotOf_62 rfl rfl ?_
  refine xm_E_s r_X3_spotOf_63 rfl rfl ?_
  exact xm_E_iret r_X3_spotOf_65 rfl rfl
theorem p_X3_spotOf_0_5 {X : xm_X} {P : List xm_M} {d : Nat} {h : xm_H} {l0 : Nat} {l1 : Int32} {l2 : Int32} {h0 : xm_H} {r0 : Int32} {h1 : xm_H} {r1 : Int32} {h2 : xm_H} {r2 : Int32} {v3 : Nat} {n4 : Nat} {v5 : Nat} {n6 : Nat} {v7 : Nat} {n8 : Nat} (q0 : xm_V X P d 40 [.int l1] h (some (.int r0)) h0) (q1 : xm_V X P d 41 [.int l1] h0 (some (.int r1)) h1) (q2 : xm_V X P d 42 [.int l1] h1 (some (.int r2)) h2) (q3 : r2 = (0 : Int32)) (q4 : ¬ (l2 < (0 : Int32))) (q5 : X.1[l0]? = some (.inr 3)) (q6 : h2.2.2 l0 0 = some v3) (q7 : X.1[v3]? = some (.inl (0, n4))) (q8 : ¬ (Int32.ofNat n4 ≤ l2)) (q9 : (r0 * (2 : Int32)) + r1 < (10 : Int32)) (q10 : ¬ (l2 < 0 ∨ n4 ≤ l2.toNatClampNeg)) (q11 : h2.1 v3 l2.toNatClampNeg = (0 : Int32)) (q12 : ¬ ((144 : Int32) ≤ h2.1 l0 15)) (q13 : (xm_si h2 l0 15 ((h2.1 l0 15) + (1 : Int32))).2.2 l0 0 = some v5) (q14 : X.1[v5]? = some (.inl (0, n6))) (q15 : ¬ (l2 < 0 ∨ n6 ≤ l2.toNatClampNeg)) (q16 : (xm_si (xm_si h2 l0 15 ((h2.1 l0 15) + (1 : Int32))) v5 l2.toNatClampNeg ((xm_si h2 l0 15 ((h2.1 l0 15) + (1 : Int32))).1 l0 15)).2.2 l0 0 = some v7) (q17 : X.1[v7]? = some (.inl (0, n8))) (q18 : ¬ (l2 < 0 ∨ n8 ≤ l2.toNatClampNeg)) (q19 : ((((xm_si (xm_si h2 l0 15 ((h2.1 l0 15) + (1 : Int32))) v5 l2.toNatClampNeg ((xm_si h2 l0 15 ((h2.1 l0 15) + (1 : Int32))).1 l0 15)).1 v7 l2.toNatClampNeg) - (1 : Int32)) * (10 : Int32)) + ((r0 * (2 : Int32)) + r1) < (0 : Int32)) : xm_E X P d co_X3_spotOf 0 [some (.ref l0), some (.int l1), some (.int l2), none, none] [] h (some (.int (-1 : Int32))) (xm_si (xm_si h2 l0 15 ((h2.1 l0 15) + (1 : Int32))) v5 l2.toNatClampNeg ((xm_si h2 l0 15 ((h2.1 l0 15) + (1 : Int32))).1 l0 15)) := by
  refine xm_E_s r_X3_spotOf_0 rfl rfl ?_
  refine xm_E_cs [.int l1] [] r_X3_spotOf_1 rfl rfl rfl (Nat.le_of_ble_eq_true rfl) rfl q0 ?_
  refine xm_E_s r_X3_spotOf_2 rfl rfl ?_
  refine xm_E_s r_X3_spotOf_3 rfl rfl ?_
  refine xm_E_s r_X3_spotOf_4 rfl rfl ?_
  refine xm_E_cs [.int l1] [.int (r0 * (2 : Int32))] r_X3_spotOf_5 rfl rfl rfl (Nat.le_of_ble_eq_true rfl) rfl q1 ?_
  refine xm_E_s r_X3_spotOf_6 rfl rfl ?_
  refine xm_E_s (ls1 := [some (.ref l0), some (.int l1), some (.int l2), some (.int ((r0 * (2 : Int32)) + r1)), none]) r_X3_spotOf_7 rfl rfl ?_
  refine xm_E_s r_X3_spotOf_8 rfl rfl ?_
  refine xm_E_cs [.int l1] [] r_X3_spotOf_9 rfl rfl rfl (Nat.le_of_ble_eq_true rfl) rfl q2 ?_
  refine xm_E_s r_X3_spotOf_10 rfl rfl ?_
  refine xm_E_t q3 ?_
  refine xm_E_s r_X3_spotOf_11 rfl rfl ?_
  refine xm_E_s r_X3_spotOf_12 rfl rfl ?_
  refine xm_E_f q4 ?_
  refine xm_E_s r_X3_spotOf_13 rfl rfl ?_
  refine xm_E_s r_X3_spotOf_14 rfl rfl ?_
  refine xm_E_s r_X3_spotOf_15 rfl (xm_T_gr rfl q5 rfl rfl q6) ?_
  refine xm_E_s r_X3_spotOf_16 rfl (xm_T_alen rfl q7 (by decide)) ?_
  refine xm_E_s r_X3_spotOf_17 rfl rfl ?_
  refine xm_E_f q8 ?_
  refine xm_E_s r_X3_spotOf_18 rfl rfl ?_
  refine xm_E_s r_X3_spotOf_19 rfl rfl ?_
  refine xm_E_s r_X3_spotOf_20 rfl rfl ?_
  refine xm_E_t q9 ?_
  refine xm_E_s r_X3_spotOf_23 rfl rfl ?_
  refine xm_E_s r_X3_spotOf_24 rfl (xm_T_gr rfl q5 rfl rfl q6) ?_
  refine xm_E_s r_X3_spotOf_25 rfl rfl ?_
  refine xm_E_s r_X3_spotOf_26 rfl (xm_T_iald rfl q7 (by decide) q10) ?_
  refine xm_E_s r_X3_spotOf_27 rfl rfl ?_
  refine xm_E_t q11 ?_
  refine xm_E_s r_X3_spotOf_28 rfl rfl ?_
  refine xm_E_s r_X3_spotOf_29 rfl (xm_T_gi rfl q5 rfl (Or.inl rfl)) ?_
  refine xm_E_s r_X3_spotOf_30 rfl rfl ?_
  refine xm_E_s r_X3_spotOf_31 rfl rfl ?_
  refine xm_E_f q12 ?_
  refine xm_E_s r_X3_spotOf_32 rfl rfl ?_
  refine xm_E_s r_X3_spotOf_33 rfl rfl ?_
  refine xm_E_s r_X3_spotOf_34 rfl (xm_T_gi rfl q5 rfl (Or.inl rfl)) ?_
  refine xm_E_s r_X3_spotOf_35 rfl rfl ?_
  refine xm_E_s r_X3_spotOf_36 rfl rfl ?_
  refine xm_E_s r_X3_spotOf_37 rfl (xm_T_pi rfl q5 rfl rfl) ?_
  refine xm_E_s r_X3_spotOf_38 rfl rfl ?_
  refine xm_E_s r_X3_spotOf_39 rfl (xm_T_gr rfl q5 rfl rfl q13) ?_
  refine xm_E_s r_X3_spotOf_40 rfl rfl ?_
  refine xm_E_s r_X3_spotOf_41 rfl rfl ?_
  refine xm_E_s r_X3_spotOf_42 rfl (xm_T_gi rfl q5 rfl (Or.inl rfl)) ?_
  refine xm_E_s r_X3_spotOf_43 rfl (xm_T_asi rfl q14 q15) ?_
  refine xm_E_s r_X3_spotOf_44 rfl rfl ?_
  refine xm_E_s r_X3_spotOf_45 rfl (xm_T_gr rfl q5 rfl rfl q16) ?_
  refine xm_E_s r_X3_spotOf_46 rfl rfl ?_
  refine xm_E_s r_X3_spotOf_47 rfl (xm_T_iald rfl q17 (by decide) q18) ?_
  refine xm_E_s r_X3_spotOf_48 rfl rfl ?_
  refine xm_E_s r_X3_spotOf_49 rfl rfl ?_
  refine xm_E_s r_X3_spotOf_50 rfl rfl ?_
  refine xm_E_s r_X3_spotOf_51 rfl rfl ?_
  refine xm_E_s r_X3_spotOf_52 rfl rfl ?_
  refine xm_E_s r_X3_spotOf_53 rfl rfl ?_
  refine xm_E_s (ls1 := [some (.ref l0), some (.int l1), some (.int l2), some (.int ((r0 * (2 : Int32)) + r1)), some (.int (((((xm_si (xm_si h2 l0 15 ((h2.1 l0 15) + (1 : Int32))) v5 l2.toNatClampNeg ((xm_si h2 l0 15 ((h2.1 l0 15) + (1 : Int32))).1 l0 15)).1 v7 l2.toNatClampNeg) - (1 : Int32)) * (10 : Int32)) + ((r0 * (2 : Int32)) + r1)))]) r_X3_spotOf_54 rfl rfl ?_
  refine xm_E_s r_X3_spotOf_55 rfl rfl ?_
  refine xm_E_s r_X3_spotOf_56 rfl rfl ?_
  refine xm_E_t q19 ?_
  refine xm_E_s r_X3_spotOf_64 rfl rfl ?_
  exact xm_E_iret r_X3_spotOf_65 rfl rfl
theorem p_X3_spotOf_0_6 {X : xm_X} {P : List xm_M} {d : Nat} {h : xm_H} {l0 : Nat} {l1 : Int32} {l2 : Int32} {h0 : xm_H} {r0 : Int32} {h1 : xm_H} {r1 : Int32} {h2 : xm_H} {r2 : Int32} {v3 : Nat} {n4 : Nat} {v5 : Nat} {n6 : Nat} {v7 : Nat} {n8 : Nat} {v9 : Nat} {n10 : Nat} (q0 : xm_V X P d 40 [.int l1] h (some (.int r0)) h0) (q1 : xm_V X P d 41 [.int l1] h0 (some (.int r1)) h1) (q2 : xm_V X P d 42 [.int l1] h1 (some (.int r2)) h2) (q3 : r2 = (0 : Int32)) (q4 : ¬ (l2 < (0 : Int32))) (q5 : X.1[l0]? = some (.inr 3)) (q6 : h2.2.2 l0 0 = some v3) (q7 : X.1[v3]? = some (.inl (0, n4))) (q8 : ¬ (Int32.ofNat n4 ≤ l2)) (q9 : (r0 * (2 : Int32)) + r1 < (10 : Int32)) (q10 : ¬ (l2 < 0 ∨ n4 ≤ l2.toNatClampNeg)) (q11 : h2.1 v3 l2.toNatClampNeg = (0 : Int32)) (q12 : ¬ ((144 : Int32) ≤ h2.1 l0 15)) (q13 : (xm_si h2 l0 15 ((h2.1 l0 15) + (1 : Int32))).2.2 l0 0 = some v5) (q14 : X.1[v5]? = some (.inl (0, n6))) (q15 : ¬ (l2 < 0 ∨ n6 ≤ l2.toNatClampNeg)) (q16 : (xm_si (xm_si h2 l0 15 ((h2.1 l0 15) + (1 : Int32))) v5 l2.toNatClampNeg ((xm_si h2 l0 15 ((h2.1 l0 15) + (1 : Int32))).1 l0 15)).2.2 l0 0 = some v7) (q17 : X.1[v7]? = some (.inl (0, n8))) (q18 : ¬ (l2 < 0 ∨ n8 ≤ l2.toNatClampNeg)) (q19 : ¬ (((((xm_si (xm_si h2 l0 15 ((h2.1 l0 15) + (1 : Int32))) v5 l2.toNatClampNeg ((xm_si h2 l0 15 ((h2.1 l0 15) + (1 : Int32))).1 l0 15)).1 v7 l2.toNatClampNeg) - (1 : Int32)) * (10 : Int32)) + ((r0 * (2 : Int32)) + r1) < (0 : Int32))) (q20 : (xm_si (xm_si h2 l0 15 ((h2.1 l0 15) + (1 : Int32))) v5 l2.toNatClampNeg ((xm_si h2 l0 15 ((h2.1 l0 15) + (1 : Int32))).1 l0 15)).2.2 l0 1 = some v9) (q21 : X.1[v9]? = some (.inl (0, n10))) (q22 : Int32.ofNat n10 ≤ ((((xm_si (xm_si h2 l0 15 ((h2.1 l0 15) + (1 : Int32))) v5 l2.toNatClampNeg ((xm_si h2 l0 15 ((h2.1 l0 15) + (1 : Int32))).1 l0 15)).1 v7 l2.toNatClampNeg) - (1 : Int32)) * (10 : Int32)) + ((r0 * (2 : Int32)) + r1)) : xm_E X P d co_X3_spotOf 0 [some (.ref l0), some (.int l1), some (.int l2), none, none] [] h (some (.int (-1 : Int32))) (xm_si (xm_si h2 l0 15 ((h2.1 l0 15) + (1 : Int32))) v5 l2.toNatClampNeg ((xm_si h2 l0 15 ((h2.1 l0 15) + (1 : Int32))).1 l0 15)) := by
  refine xm_E_s r_X3_spotOf_0 rfl rfl ?_
  refine xm_E_cs [.int l1] [] r_X3_spotOf_1 rfl rfl rfl (Nat.le_of_ble_eq_true rfl) rfl q0 ?_
  refine xm_E_s r_X3_spotOf_2 rfl rfl ?_
  refine xm_E_s r_X3_spotOf_3 rfl rfl ?_
  refine xm_E_s r_X3_spotOf_4 rfl rfl ?_
  refine xm_E_cs [.int l1] [.int (r0 * (2 : Int32))] r_X3_spotOf_5 rfl rfl rfl (Nat.le_of_ble_eq_true rfl) rfl q1 ?_
  refine xm_E_s r_X3_spotOf_6 rfl rfl ?_
  refine xm_E_s (ls1 := [some (.ref l0), some (.int l1), some (.int l2), some (.int ((r0 * (2 : Int32)) + r1)), none]) r_X3_spotOf_7 rfl rfl ?_
  refine xm_E_s r_X3_spotOf_8 rfl rfl ?_
  refine xm_E_cs [.int l1] [] r_X3_spotOf_9 rfl rfl rfl (Nat.le_of_ble_eq_true rfl) rfl q2 ?_
  refine xm_E_s r_X3_spotOf_10 rfl rfl ?_
  refine xm_E_t q3 ?_
  refine xm_E_s r_X3_spotOf_11 rfl rfl ?_
  refine xm_E_s r_X3_spotOf_12 rfl rfl ?_
  refine xm_E_f q4 ?_
  refine xm_E_s r_X3_spotOf_13 rfl rfl ?_
  refine xm_E_s r_X3_spotOf_14 rfl rfl ?_
  refine xm_E_s r_X3_spotOf_15 rfl (xm_T_gr rfl q5 rfl rfl q6) ?_
  refine xm_E_s r_X3_spotOf_16 rfl (xm_T_alen rfl q7 (by decide)) ?_
  refine xm_E_s r_X3_spotOf_17 rfl rfl ?_
  refine xm_E_f q8 ?_
  refine xm_E_s r_X3_spotOf_18 rfl rfl ?_
  refine xm_E_s r_X3_spotOf_19 rfl rfl ?_
  refine xm_E_s r_X3_spotOf_20 rfl rfl ?_
  refine xm_E_t q9 ?_
  refine xm_E_s r_X3_spotOf_23 rfl rfl ?_
  refine xm_E_s r_X3_spotOf_24 rfl (xm_T_gr rfl q5 rfl rfl q6) ?_
  refine xm_E_s r_X3_spotOf_25 rfl rfl ?_
  refine xm_E_s r_X3_spotOf_26 rfl (xm_T_iald rfl q7 (by decide) q10) ?_
  refine xm_E_s r_X3_spotOf_27 rfl rfl ?_
  refine xm_E_t q11 ?_
  refine xm_E_s r_X3_spotOf_28 rfl rfl ?_
  refine xm_E_s r_X3_spotOf_29 rfl (xm_T_gi rfl q5 rfl (Or.inl rfl)) ?_
  refine xm_E_s r_X3_spotOf_30 rfl rfl ?_
  refine xm_E_s r_X3_spotOf_31 rfl rfl ?_
  refine xm_E_f q12 ?_
  refine xm_E_s r_X3_spotOf_32 rfl rfl ?_
  refine xm_E_s r_X3_spotOf_33 rfl rfl ?_
  refine xm_E_s r_X3_spotOf_34 rfl (xm_T_gi rfl q5 rfl (Or.inl rfl)) ?_
  refine xm_E_s r_X3_spotOf_35 rfl rfl ?_
  refine xm_E_s r_X3_spotOf_36 rfl rfl ?_
  refine xm_E_s r_X3_spotOf_37 rfl (xm_T_pi rfl q5 rfl rfl) ?_
  refine xm_E_s r_X3_spotOf_38 rfl rfl ?_
  refine xm_E_s r_X3_spotOf_39 rfl (xm_T_gr rfl q5 rfl rfl q13) ?_
  refine xm_E_s r_X3_spotOf_40 rfl rfl ?_
  refine xm_E_s r_X3_spotOf_41 rfl rfl ?_
  refine xm_E_s r_X3_spotOf_42 rfl (xm_T_gi rfl q5 rfl (Or.inl rfl)) ?_
  refine xm_E_s r_X3_spotOf_43 rfl (xm_T_asi rfl q14 q15) ?_
  refine xm_E_s r_X3_spotOf_44 rfl rfl ?_
  refine xm_E_s r_X3_spotOf_45 rfl (xm_T_gr rfl q5 rfl rfl q16) ?_
  refine xm_E_s r_X3_spotOf_46 rfl rfl ?_
  refine xm_E_s r_X3_spotOf_47 rfl (xm_T_iald rfl q17 (by decide) q18) ?_
  refine xm_E_s r_X3_spotOf_48 rfl rfl ?_
  refine xm_E_s r_X3_spotOf_49 rfl rfl ?_
  refine xm_E_s r_X3_spotOf_50 rfl rfl ?_
  refine xm_E_s r_X3_spotOf_51 rfl rfl ?_
  refine xm_E_s r_X3_spotOf_52 rfl rfl ?_
  refine xm_E_s r_X3_spotOf_53 rfl rfl ?_
  refine xm_E_s (ls1 := [some (.ref l0), some (.int l1), some (.int l2), some (.int ((r0 * (2 : Int32)) + r1)), some (.int (((((xm_si (xm_si h2 l0 15 ((h2.1 l0 15) + (1 : Int32))) v5 l2.toNatClampNeg ((xm_si h2 l0 15 ((h2.1 l0 15) + (1 : Int32))).1 l0 15)).1 v7 l2.toNatClampNeg) - (1 : Int32)) * (10 : Int32)) + ((r0 * (2 : Int32)) + r1)))]) r_X3_spotOf_54 rfl rfl ?_
  refine xm_E_s r_X3_spotOf_55 rfl rfl ?_
  refine xm_E_s r_X3_spotOf_56 rfl rfl ?_
  refine xm_E_f q19 ?_
  refine xm_E_s r_X3_spotOf_57 rfl rfl ?_
  refine xm_E_s r_X3_spotOf_58 rfl rfl ?_
  refine xm_E_s r_X3_spotOf_59 rfl (xm_T_gr rfl q5 rfl rfl q20) ?_
  refine xm_E_s r_X3_spotOf_60 rfl (xm_T_alen rfl q21 (by decide)) ?_
  refine xm_E_s r_X3_spotOf_61 rfl rfl ?_
  refine xm_E_t q22 ?_
  refine xm_E_s r_X3_spotOf_64 rfl rfl ?_
  exact xm_E_iret r_X3_spotOf_65 rfl rfl
theorem p_X3_spotOf_0_7 {X : xm_X} {P : List xm_M} {d : Nat} {h : xm_H} {l0 : Nat} {l1 : Int32} {l2 : Int32} {h0 : xm_H} {r0 : Int32} {h1 : xm_H} {r1 : Int32} {h2 : xm_H} {r2 : Int32} {v3 : Nat} {n4 : Nat} {v5 : Nat} {n6 : Nat} {v7 : Nat} {n8 : Nat} {v9 : Nat} {n10 : Nat} (q0 : xm_V X P d 40 [.int l1] h (some (.int r0)) h0) (q1 : xm_V X P d 41 [.int l1] h0 (some (.int r1)) h1) (q2 : xm_V X P d 42 [.int l1] h1 (some (.int r2)) h2) (q3 : r2 = (0 : Int32)) (q4 : ¬ (l2 < (0 : Int32))) (q5 : X.1[l0]? = some (.inr 3)) (q6 : h2.2.2 l0 0 = some v3) (q7 : X.1[v3]? = some (.inl (0, n4))) (q8 : ¬ (Int32.ofNat n4 ≤ l2)) (q9 : (r0 * (2 : Int32)) + r1 < (10 : Int32)) (q10 : ¬ (l2 < 0 ∨ n4 ≤ l2.toNatClampNeg)) (q11 : h2.1 v3 l2.toNatClampNeg = (0 : Int32)) (q12 : ¬ ((144 : Int32) ≤ h2.1 l0 15)) (q13 : (xm_si h2 l0 15 ((h2.1 l0 15) + (1 : Int32))).2.2 l0 0 = some v5) (q14 : X.1[v5]? = some (.inl (0, n6))) (q15 : ¬ (l2 < 0 ∨ n6 ≤ l2.toNatClampNeg)) (q16 : (xm_si (xm_si h2 l0 15 ((h2.1 l0 15) + (1 : Int32))) v5 l2.toNatClampNeg ((xm_si h2 l0 15 ((h2.1 l0 15) + (1 : Int32))).1 l0 15)).2.2 l0 0 = some v7) (q17 : X.1[v7]? = some (.inl (0, n8))) (q18 : ¬ (l2 < 0 ∨ n8 ≤ l2.toNatClampNeg)) (q19 : ¬ (((((xm_si (xm_si h2 l0 15 ((h2.1 l0 15) + (1 : Int32))) v5 l2.toNatClampNeg ((xm_si h2 l0 15 ((h2.1 l0 15) + (1 : Int32))).1 l0 15)).1 v7 l2.toNatClampNeg) - (1 : Int32)) * (10 : Int32)) + ((r0 * (2 : Int32)) + r1) < (0 : Int32))) (q20 : (xm_si (xm_si h2 l0 15 ((h2.1 l0 15) + (1 : Int32))) v5 l2.toNatClampNeg ((xm_si h2 l0 15 ((h2.1 l0 15) + (1 : Int32))).1 l0 15)).2.2 l0 1 = some v9) (q21 : X.1[v9]? = some (.inl (0, n10))) (q22 : ¬ (Int32.ofNat n10 ≤ ((((xm_si (xm_si h2 l0 15 ((h2.1 l0 15) + (1 : Int32))) v5 l2.toNatClampNeg ((xm_si h2 l0 15 ((h2.1 l0 15) + (1 : Int32))).1 l0 15)).1 v7 l2.toNatClampNeg) - (1 : Int32)) * (10 : Int32)) + ((r0 * (2 : Int32)) + r1))) : xm_E X P d co_X3_spotOf 0 [some (.ref l0), some (.int l1), some (.int l2), none, none] [] h (some (.int (((((xm_si (xm_si h2 l0 15 ((h2.1 l0 15) + (1 : Int32))) v5 l2.toNatClampNeg ((xm_si h2 l0 15 ((h2.1 l0 15) + (1 : Int32))).1 l0 15)).1 v7 l2.toNatClampNeg) - (1 : Int32)) * (10 : Int32)) + ((r0 * (2 : Int32)) + r1)))) (xm_si (xm_si h2 l0 15 ((h2.1 l0 15) + (1 : Int32))) v5 l2.toNatClampNeg ((xm_si h2 l0 15 ((h2.1 l0 15) + (1 : Int32))).1 l0 15)) := by
  refine xm_E_s r_X3_spotOf_0 rfl rfl ?_
  refine xm_E_cs [.int l1] [] r_X3_spotOf_1 rfl rfl rfl (Nat.le_of_ble_eq_true rfl) rfl q0 ?_
  refine xm_E_s r_X3_spotOf_2 rfl rfl ?_
  refine xm_E_s r_X3_spotOf_3 rfl rfl ?_
  refine xm_E_s r_X3_spotOf_4 rfl rfl ?_
  refine xm_E_cs [.int l1] [.int (r0 * (2 : Int32))] r_X3_spotOf_5 rfl rfl rfl (Nat.le_of_ble_eq_true rfl) rfl q1 ?_
  refine xm_E_s r_X3_spotOf_6 rfl rfl ?_
  refine xm_E_s (ls1 := [some (.ref l0), some (.int l1), some (.int l2), some (.int ((r0 * (2 : Int32)) + r1)), none]) r_X3_spotOf_7 rfl rfl ?_
  refine xm_E_s r_X3_spotOf_8 rfl rfl ?_
  refine xm_E_cs [.int l1] [] r_X3_spotOf_9 rfl rfl rfl (Nat.le_of_ble_eq_true rfl) rfl q2 ?_
  refine xm_E_s r_X3_spotOf_10 rfl rfl ?_
  refine xm_E_t q3 ?_
  refine xm_E_s r_X3_spotOf_11 rfl rfl ?_
  refine xm_E_s r_X3_spotOf_12 rfl rfl ?_
  refine xm_E_f q4 ?_
  refine xm_E_s r_X3_spotOf_13 rfl rfl ?_
  refine xm_E_s r_X3_spotOf_14 rfl rfl ?_
  refine xm_E_s r_X3_spotOf_15 rfl (xm_T_gr rfl q5 rfl rfl q6) ?_
  refine xm_E_s r_X3_spotOf_16 rfl (xm_T_alen rfl q7 (by decide)) ?_
  refine xm_E_s r_X3_spotOf_17 rfl rfl ?_
  refine xm_E_f q8 ?_
  refine xm_E_s r_X3_spotOf_18 rfl rfl ?_
  refine xm_E_s r_X3_spotOf_19 rfl rfl ?_
  refine xm_E_s r_X3_spotOf_20 rfl rfl ?_
  refine xm_E_t q9 ?_
  refine xm_E_s r_X3_spotOf_23 rfl rfl ?_
  refine xm_E_s r_X3_spotOf_24 rfl (xm_T_gr rfl q5 rfl rfl q6) ?_
  refine xm_E_s r_X3_spotOf_25 rfl rfl ?_
  refine xm_E_s r_X3_spotOf_26 rfl (xm_T_iald rfl q7 (by decide) q10) ?_
  refine xm_E_s r_X3_spotOf_27 rfl rfl ?_
  refine xm_E_t q11 ?_
  refine xm_E_s r_X3_spotOf_28 rfl rfl ?_
  refine xm_E_s r_X3_spotOf_29 rfl (xm_T_gi rfl q5 rfl (Or.inl rfl)) ?_
  refine xm_E_s r_X3_spotOf_30 rfl rfl ?_
  refine xm_E_s r_X3_spotOf_31 rfl rfl ?_
  refine xm_E_f q12 ?_
  refine xm_E_s r_X3_spotOf_32 rfl rfl ?_
  refine xm_E_s r_X3_spotOf_33 rfl rfl ?_
  refine xm_E_s r_X3_spotOf_34 rfl (xm_T_gi rfl q5 rfl (Or.inl rfl)) ?_
  refine xm_E_s r_X3_spotOf_35 rfl rfl ?_
  refine xm_E_s r_X3_spotOf_36 rfl rfl ?_
  refine xm_E_s r_X3_spotOf_37 rfl (xm_T_pi rfl q5 rfl rfl) ?_
  refine xm_E_s r_X3_spotOf_38 rfl rfl ?_
  refine xm_E_s r_X3_spotOf_39 rfl (xm_T_gr rfl q5 rfl rfl q13) ?_
  refine xm_E_s r_X3_spotOf_40 rfl rfl ?_
  refine xm_E_s r_X3_spotOf_41 rfl rfl ?_
  refine xm_E_s r_X3_spotOf_42 rfl (xm_T_gi rfl q5 rfl (Or.inl rfl)) ?_
  refine xm_E_s r_X3_spotOf_43 rfl (xm_T_asi rfl q14 q15) ?_
  refine xm_E_s r_X3_spotOf_44 rfl rfl ?_
  refine xm_E_s r_X3_spotOf_45 rfl (xm_T_gr rfl q5 rfl rfl q16) ?_
  refine xm_E_s r_X3_spotOf_46 rfl rfl ?_
  refine xm_E_s r_X3_spotOf_47 rfl (xm_T_iald rfl q17 (by decide) q18) ?_
  refine xm_E_s r_X3_spotOf_48 rfl rfl ?_
  refine xm_E_s r_X3_spotOf_49 rfl rfl ?_
  refine xm_E_s r_X3_spotOf_50 rfl rfl ?_
  refine xm_E_s r_X3_spotOf_51 rfl rfl ?_
  refine xm_E_s r_X3_spotOf_52 rfl rfl ?_
  refine xm_E_s r_X3_spotOf_53 rfl rfl ?_
  refine xm_E_s (ls1 := [some (.ref l0), some (.int l1), some (.int l2), some (.int ((r0 * (2 : Int32)) + r1)), some (.int (((((xm_si (xm_si h2 l0 15 ((h2.1 l0 15) + (1 : Int32))) v5 l2.toNatClampNeg ((xm_si h2 l0 15 ((h2.1 l0 15) + (1 : Int32))).1 l0 15)).1 v7 l2.toNatClampNeg) - (1 : Int32)) * (10 : Int32)) + ((r0 * (2 : Int32)) + r1)))]) r_X3_spotOf_54 rfl rfl ?_
  refine xm_E_s r_X3_spotOf_55 rfl rfl ?_
  refine xm_E_s r_X3_spotOf_56 rfl rfl ?_
  refine xm_E_f q19 ?_
  refine xm_E_s r_X3_spotOf_57 rfl rfl ?_
  refine xm_E_s r_X3_spotOf_58 rfl rfl ?_
  refine xm_E_s r_X3_spotOf_59 rfl (xm_T_gr rfl q5 rfl rfl q20) ?_
  refine xm_E_s r_X3_spotOf_60 rfl (xm_T_alen rfl q21 (by decide)) ?_
  refine xm_E_s r_X3_spotOf_61 rfl rfl ?_
  refine xm_E_f q22 ?_
  refine xm_E_s r_X3_spotOf_62 rfl rfl ?_
  refine xm_E_s r_X3_spotOf_63 rfl rfl ?_
  exact xm_E_iret r_X3_spotOf_65 rfl rfl
theorem p_X3_spotOf_0_8 {X : xm_X} {P : List xm_M} {d : Nat} {h : xm_H} {l0 : Nat} {l1 : Int32} {l2 : Int32} {h0 : xm_H} {r0 : Int32} {h1 : xm_H} {r1 : Int32} {h2 : xm_H} {r2 : Int32} {v3 : Nat} {n4 : Nat} (q0 : xm_V X P d 40 [.int l1] h (some (.int r0)) h0) (q1 : xm_V X P d 41 [.int l1] h0 (some (.int r1)) h1) (q2 : xm_V X P d 42 [.int l1] h1 (some (.int r2)) h2) (q3 : r2 = (0 : Int32)) (q4 : ¬ (l2 < (0 : Int32))) (q5 : X.1[l0]? = some (.inr 3)) (q6 : h2.2.2 l0 0 = some v3) (q7 : X.1[v3]? = some (.inl (0, n4))) (q8 : ¬ (Int32.ofNat n4 ≤ l2)) (q9 : (r0 * (2 : Int32)) + r1 < (10 : Int32)) (q10 : ¬ (l2 < 0 ∨ n4 ≤ l2.toNatClampNeg)) (q11 : ¬ (h2.1 v3 l2.toNatClampNeg = (0 : Int32))) (q12 : (((h2.1 v3 l2.toNatClampNeg) - (1 : Int32)) * (10 : Int32)) + ((r0 * (2 : Int32)) + r1) < (0 : Int32)) : xm_E X P d co_X3_spotOf 0 [some (.ref l0), some (.int l1), some (.int l2), none, none] [] h (some (.int (-1 : Int32))) h2 := by
  refine xm_E_s r_X3_spotOf_0 rfl rfl ?_
  refine xm_E_cs [.int l1] [] r_X3_spotOf_1 rfl rfl rfl (Nat.le_of_ble_eq_true rfl) rfl q0 ?_
  refine xm_E_s r_X3_spotOf_2 rfl rfl ?_
  refine xm_E_s r_X3_spotOf_3 rfl rfl ?_
  refine xm_E_s r_X3_spotOf_4 rfl rfl ?_
  refine xm_E_cs [.int l1] [.int (r0 * (2 : Int32))] r_X3_spotOf_5 rfl rfl rfl (Nat.le_of_ble_eq_true rfl) rfl q1 ?_
  refine xm_E_s r_X3_spotOf_6 rfl rfl ?_
  refine xm_E_s (ls1 := [some (.ref l0), some (.int l1), some (.int l2), some (.int ((r0 * (2 : Int32)) + r1)), none]) r_X3_spotOf_7 rfl rfl ?_
  refine xm_E_s r_X3_spotOf_8 rfl rfl ?_
  refine xm_E_cs [.int l1] [] r_X3_spotOf_9 rfl rfl rfl (Nat.le_of_ble_eq_true rfl) rfl q2 ?_
  refine xm_E_s r_X3_spotOf_10 rfl rfl ?_
  refine xm_E_t q3 ?_
  refine xm_E_s r_X3_spotOf_11 rfl rfl ?_
  refine xm_E_s r_X3_spotOf_12 rfl rfl ?_
  refine xm_E_f q4 ?_
  refine xm_E_s r_X3_spotOf_13 rfl rfl ?_
  refine xm_E_s r_X3_spotOf_14 rfl rfl ?_
  refine xm_E_s r_X3_spotOf_15 rfl (xm_T_gr rfl q5 rfl rfl q6) ?_
  refine xm_E_s r_X3_spotOf_16 rfl (xm_T_alen rfl q7 (by decide)) ?_
  refine xm_E_s r_X3_spotOf_17 rfl rfl ?_
  refine xm_E_f q8 ?_
  refine xm_E_s r_X3_spotOf_18 rfl rfl ?_
  refine xm_E_s r_X3_spotOf_19 rfl rfl ?_
  refine xm_E_s r_X3_spotOf_20 rfl rfl ?_
  refine xm_E_t q9 ?_
  refine xm_E_s r_X3_spotOf_23 rfl rfl ?_
  refine xm_E_s r_X3_spotOf_24 rfl (xm_T_gr rfl q5 rfl rfl q6) ?_
  refine xm_E_s r_X3_spotOf_25 rfl rfl ?_
  refine xm_E_s r_X3_spotOf_26 rfl (xm_T_iald rfl q7 (by decide) q10) ?_
  refine xm_E_s r_X3_spotOf_27 rfl rfl ?_
  refine xm_E_f q11 ?_
  refine xm_E_s r_X3_spotOf_44 rfl rfl ?_
  refine xm_E_s r_X3_spotOf_45 rfl (xm_T_gr rfl q5 rfl rfl q6) ?_
  refine xm_E_s r_X3_spotOf_46 rfl rfl ?_
  refine xm_E_s r_X3_spotOf_47 rfl (xm_T_iald rfl q7 (by decide) q10) ?_
  refine xm_E_s r_X3_spotOf_48 rfl rfl ?_
  refine xm_E_s r_X3_spotOf_49 rfl rfl ?_
  refine xm_E_s r_X3_spotOf_50 rfl rfl ?_
  refine xm_E_s r_X3_spotOf_51 rfl rfl ?_
  refine xm_E_s r_X3_spotOf_52 rfl rfl ?_
  refine xm_E_s r_X3_spotOf_53 rfl rfl ?_
  refine xm_E_s (ls1 := [some (.ref l0), some (.int l1), some (.int l2), some (.int ((r0 * (2 : Int32)) + r1)), some (.int ((((h2.1 v3 l2.toNatClampNeg) - (1 : Int32)) * (10 : Int32)) + ((r0 * (2 : Int32)) + r1)))]) r_X3_spotOf_54 rfl rfl ?_
  refine xm_E_s r_X3_spotOf_55 rfl rfl ?_
  refine xm_E_s r_X3_spotOf_56 rfl rfl ?_
  refine xm_E_t q12 ?_
  refine xm_E_s r_X3_spotOf_64 rfl rfl ?_
  exact xm_E_iret r_X3_spotOf_65 rfl rfl
theorem p_X3_spotOf_0_9 {X : xm_X} {P : List xm_M} {d : Nat} {h : xm_H} {l0 : Nat} {l1 : Int32} {l2 : Int32} {h0 : xm_H} {r0 : Int32} {h1 : xm_H} {r1 : Int32} {h2 : xm_H} {r2 : Int32} {v3 : Nat} {n4 : Nat} {v5 : Nat} {n6 : Nat} (q0 : xm_V X P d 40 [.int l1] h (some (.int r0)) h0) (q1 : xm_V X P d 41 [.int l1] h0 (some (.int r1)) h1) (q2 : xm_V X P d 42 [.int l1] h1 (some (.int r2)) h2) (q3 : r2 = (0 : Int32)) (q4 : ¬ (l2 < (0 : Int32))) (q5 : X.1[l0]? = some (.inr 3)) (q6 : h2.2.2 l0 0 = some v3) (q7 : X.1[v3]? = some (.inl (0, n4))) (q8 : ¬ (Int32.ofNat n4 ≤ l2)) (q9 : (r0 * (2 : Int32)) + r1 < (10 : Int32)) (q10 : ¬ (l2 < 0 ∨ n4 ≤ l2.toNatClampNeg)) (q11 : ¬ (h2.1 v3 l2.toNatClampNeg = (0 : Int32))) (q12 : ¬ ((((h2.1 v3 l2.toNatClampNeg) - (1 : Int32)) * (10 : Int32)) + ((r0 * (2 : Int32)) + r1) < (0 : Int32))) (q13 : h2.2.2 l0 1 = some v5) (q14 : X.1[v5]? = some (.inl (0, n6))) (q15 : Int32.ofNat n6 ≤ (((h2.1 v3 l2.toNatClampNeg) - (1 : Int32)) * (10 : Int32)) + ((r0 * (2 : Int32)) + r1)) : xm_E X P d co_X3_spotOf 0 [some (.ref l0), some (.int l1), some (.int l2), none, none] [] h (some (.int (-1 : Int32))) h2 := by
  refine xm_E_s r_X3_spotOf_0 rfl rfl ?_
  refine xm_E_cs [.int l1] [] r_X3_spotOf_1 rfl rfl rfl (Nat.le_of_ble_eq_true rfl) rfl q0 ?_
  refine xm_E_s r_X3_spotOf_2 rfl rfl ?_
  refine xm_E_s r_X3_spotOf_3 rfl rfl ?_
  refine xm_E_s r_X3_spotOf_4 rfl rfl ?_
  refine xm_E_cs [.int l1] [.int (r0 * (2 : Int32))] r_X3_spotOf_5 rfl rfl rfl (Nat.le_of_ble_eq_true rfl) rfl q1 ?_
  refine xm_E_s r_X3_spotOf_6 rfl rfl ?_
  refine xm_E_s (ls1 := [some (.ref l0), some (.int l1), some (.int l2), some (.int ((r0 * (2 : Int32)) + r1)), none]) r_X3_spotOf_7 rfl rfl ?_
  refine xm_E_s r_X3_spotOf_8 rfl rfl ?_
  refine xm_E_cs [.int l1] [] r_X3_spotOf_9 rfl rfl rfl (Nat.le_of_ble_eq_true rfl) rfl q2 ?_
  refine xm_E_s r_X3_spotOf_10 rfl rfl ?_
  refine xm_E_t q3 ?_
  refine xm_E_s r_X3_spotOf_11 rfl rfl ?_
  refine xm_E_s r_X3_spotOf_12 rfl rfl ?_
  refine xm_E_f q4 ?_
  refine xm_E_s r_X3_spotOf_13 rfl rfl ?_
  refine xm_E_s r_X3_spotOf_14 rfl rfl ?_
  refine xm_E_s r_X3_spotOf_15 rfl (xm_T_gr rfl q5 rfl rfl q6) ?_
  refine xm_E_s r_X3_spotOf_16 rfl (xm_T_alen rfl q7 (by decide)) ?_
  refine xm_E_s r_X3_spotOf_17 rfl rfl ?_
  refine xm_E_f q8 ?_
  refine xm_E_s r_X3_spotOf_18 rfl rfl ?_
  refine xm_E_s r_X3_spotOf_19 rfl rfl ?_
  refine xm_E_s r_X3_spotOf_20 rfl rfl ?_
  refine xm_E_t q9 ?_
  refine xm_E_s r_X3_spotOf_23 rfl rfl ?_
  refine xm_E_s r_X3_spotOf_24 rfl (xm_T_gr rfl q5 rfl rfl q6) ?_
  refine xm_E_s r_X3_spotOf_25 rfl rfl ?_
  refine xm_E_s r_X3_spotOf_26 rfl (xm_T_iald rfl q7 (by decide) q10) ?_
  refine xm_E_s r_X3_spotOf_27 rfl rfl ?_
  refine xm_E_f q11 ?_
  refine xm_E_s r_X3_spotOf_44 rfl rfl ?_
  refine xm_E_s r_X3_spotOf_45 rfl (xm_T_gr rfl q5 rfl rfl q6) ?_
  refine xm_E_s r_X3_spotOf_46 rfl rfl ?_
  refine xm_E_s r_X3_spotOf_47 rfl (xm_T_iald rfl q7 (by decide) q10) ?_
  refine xm_E_s r_X3_spotOf_48 rfl rfl ?_
  refine xm_E_s r_X3_spotOf_49 rfl rfl ?_
  refine xm_E_s r_X3_spotOf_50 rfl rfl ?_
  refine xm_E_s r_X3_spotOf_51 rfl rfl ?_
  refine xm_E_s r_X3_spotOf_52 rfl rfl ?_
  refine xm_E_s r_X3_spotOf_53 rfl rfl ?_
  refine xm_E_s (ls1 := [some (.ref l0), some (.int l1), some (.int l2), some (.int ((r0 * (2 : Int32)) + r1)), some (.int ((((h2.1 v3 l2.toNatClampNeg) - (1 : Int32)) * (10 : Int32)) + ((r0 * (2 : Int32)) + r1)))]) r_X3_spotOf_54 rfl rfl ?_
  refine xm_E_s r_X3_spotOf_55 rfl rfl ?_
  refine xm_E_s r_X3_spotOf_56 rfl rfl ?_
  refine xm_E_f q12 ?_
  refine xm_E_s r_X3_spotOf_57 rfl rfl ?_
  refine xm_E_s r_X3_spotOf_58 rfl rfl ?_
  refine xm_E_s r_X3_spotOf_59 rfl (xm_T_gr rfl q5 rfl rfl q13) ?_
  refine xm_E_s r_X3_spotOf_60 rfl (xm_T_alen rfl q14 (by decide)) ?_
  refine xm_E_s r_X3_spotOf_61 rfl rfl ?_
  refine xm_E_t q15 ?_
  refine xm_E_s r_X3_spotOf_64 rfl rfl ?_
  exact xm_E_iret r_X3_spotOf_65 rfl rfl
theorem p_X3_spotOf_0_10 {X : xm_X} {P : List xm_M} {d : Nat} {h : xm_H} {l0 : Nat} {l1 : Int32} {l2 : Int32} {h0 : xm_H} {r0 : Int32} {h1 : xm_H} {r1 : Int32} {h2 : xm_H} {r2 : Int32} {v3 : Nat} {n4 : Nat} {v5 : Nat} {n6 : Nat} (q0 : xm_V X P d 40 [.int l1] h (some (.int r0)) h0) (q1 : xm_V X P d 41 [.int l1] h0 (some (.int r1)) h1) (q2 : xm_V X P d 42 [.int l1] h1 (some (.int r2)) h2) (q3 : r2 = (0 : Int32)) (q4 : ¬ (l2 < (0 : Int32))) (q5 : X.1[l0]? = some (.inr 3)) (q6 : h2.2.2 l0 0 = some v3) (q7 : X.1[v3]? = some (.inl (0, n4))) (q8 : ¬ (Int32.ofNat n4 ≤ l2)) (q9 : (r0 * (2 : Int32)) + r1 < (10 : Int32)) (q10 : ¬ (l2 < 0 ∨ n4 ≤ l2.toNatClampNeg)) (q11 : ¬ (h2.1 v3 l2.toNatClampNeg = (0 : Int32))) (q12 : ¬ ((((h2.1 v3 l2.toNatClampNeg) - (1 : Int32)) * (10 : Int32)) + ((r0 * (2 : Int32)) + r1) < (0 : Int32))) (q13 : h2.2.2 l0 1 = some v5) (q14 : X.1[v5]? = some (.inl (0, n6))) (q15 : ¬ (Int32.ofNat n6 ≤ (((h2.1 v3 l2.toNatClampNeg) - (1 : Int32)) * (10 : Int32)) + ((r0 * (2 : Int32)) + r1))) : xm_E X P d co_X3_spotOf 0 [some (.ref l0), some (.int l1), some (.int l2), none, none] [] h (some (.int ((((h2.1 v3 l2.toNatClampNeg) - (1 : Int32)) * (10 : Int32)) + ((r0 * (2 : Int32)) + r1)))) h2 := by
  refine xm_E_s r_X3_spotOf_0 rfl rfl ?_
  refine xm_E_cs [.int l1] [] r_X3_spotOf_1 rfl rfl rfl (Nat.le_of_ble_eq_true rfl) rfl q0 ?_
  refine xm_E_s r_X3_spotOf_2 rfl rfl ?_
  refine xm_E_s r_X3_spotOf_3 rfl rfl ?_
  refine xm_E_s r_X3_spotOf_4 rfl rfl ?_
  refine xm_E_cs [.int l1] [.int (r0 * (2 : Int32))] r_X3_spotOf_5 rfl rfl rfl (Nat.le_of_ble_eq_true rfl) rfl q1 ?_
  refine xm_E_s r_X3_spotOf_6 rfl rfl ?_
  refine xm_E_s (ls1 := [some (.ref l0), some (.int l1), some (.int l2), some (.int ((r0 * (2 : Int32)) + r1)), none]) r_X3_spotOf_7 rfl rfl ?_
  refine xm_E_s r_X3_spotOf_8 rfl rfl ?_
  refine xm_E_cs [.int l1] [] r_X3_spotOf_9 rfl rfl rfl (Nat.le_of_ble_eq_true rfl) rfl q2 ?_
  refine xm_E_s r_X3_spotOf_10 rfl rfl ?_
  refine xm_E_t q3 ?_
  refine xm_E_s r_X3_spotOf_11 rfl rfl ?_
  refine xm_E_s r_X3_spotOf_12 rfl rfl ?_
  refine xm_E_f q4 ?_
  refine xm_E_s r_X3_spotOf_13 rfl rfl ?_
  refine xm_E_s r_X3_spotOf_14 rfl rfl ?_
  refine xm_E_s r_X3_spotOf_15 rfl (xm_T_gr rfl q5 rfl rfl q6) ?_
  refine xm_E_s r_X3_spotOf_16 rfl (xm_T_alen rfl q7 (by decide)) ?_
  refine xm_E_s r_X3_spotOf_17 rfl rfl ?_
  refine xm_E_f q8 ?_
  refine xm_E_s r_X3_spotOf_18 rfl rfl ?_
  refine xm_E_s r_X3_spotOf_19 rfl rfl ?_
  refine xm_E_s r_X3_spotOf_20 rfl rfl ?_
  refine xm_E_t q9 ?_
  refine xm_E_s r_X3_spotOf_23 rfl rfl ?_
  refine xm_E_s r_X3_spotOf_24 rfl (xm_T_gr rfl q5 rfl rfl q6) ?_
  refine xm_E_s r_X3_spotOf_25 rfl rfl ?_
  refine xm_E_s r_X3_spotOf_26 rfl (xm_T_iald rfl q7 (by decide) q10) ?_
  refine xm_E_s r_X3_spotOf_27 rfl rfl ?_
  refine xm_E_f q11 ?_
  refine xm_E_s r_X3_spotOf_44 rfl rfl ?_
  refine xm_E_s r_X3_spotOf_45 rfl (xm_T_gr rfl q5 rfl rfl q6) ?_
  refine xm_E_s r_X3_spotOf_46 rfl rfl ?_
  refine xm_E_s r_X3_spotOf_47 rfl (xm_T_iald rfl q7 (by decide) q10) ?_
  refine xm_E_s r_X3_spotOf_48 rfl rfl ?_
  refine xm_E_s r_X3_spotOf_49 rfl rfl ?_
  refine xm_E_s r_X3_spotOf_50 rfl rfl ?_
  refine xm_E_s r_X3_spotOf_51 rfl rfl ?_
  refine xm_E_s r_X3_spotOf_52 rfl rfl ?_
  refine xm_E_s r_X3_spotOf_53 rfl rfl ?_
  refine xm_E_s (ls1 := [some (.ref l0), some (.int l1), some (.int l2), some (.int ((r0 * (2 : Int32)) + r1)), some (.int ((((h2.1 v3 l2.toNatClampNeg) - (1 : Int32)) * (10 : Int32)) + ((r0 * (2 : Int32)) + r1)))]) r_X3_spotOf_54 rfl rfl ?_
  refine xm_E_s r_X3_spotOf_55 rfl rfl ?_
  refine xm_E_s r_X3_spotOf_56 rfl rfl ?_
  refine xm_E_f q12 ?_
  refine xm_E_s r_X3_spotOf_57 rfl rfl ?_
  refine xm_E_s r_X3_spotOf_58 rfl rfl ?_
  refine xm_E_s r_X3_spotOf_59 rfl (xm_T_gr rfl q5 rfl rfl q13) ?_
  refine xm_E_s r_X3_spotOf_60 rfl (xm_T_alen rfl q14 (by decide)) ?_
  refine xm_E_s r_X3_spotOf_61 rfl rfl ?_
  refine xm_E_f q15 ?_
  refine xm_E_s r_X3_spotOf_62 rfl rfl ?_
  refine xm_E_s r_X3_spotOf_63 rfl rfl ?_
  exact xm_E_iret r_X3_spotOf_65 rfl rfl
theorem p_X3_spotOf_0_11 {X : xm_X} {P : List xm_M} {d : Nat} {h : xm_H} {l0 : Nat} {l1 : Int32} {l2 : Int32} {h0 : xm_H} {r0 : Int32} {h1 : xm_H} {r1 : Int32} {h2 : xm_H} {r2 : Int32} {v3 : Nat} {n4 : Nat} (q0 : xm_V X P d 40 [.int l1] h (some (.int r0)) h0) (q1 : xm_V X P d 41 [.int l1] h0 (some (.int r1)) h1) (q2 : xm_V X P d 42 [.int l1] h1 (some (.int r2)) h2) (q3 : r2 = (0 : Int32)) (q4 : ¬ (l2 < (0 : Int32))) (q5 : X.1[l0]? = some (.inr 3)) (q6 : h2.2.2 l0 0 = some v3) (q7 : X.1[v3]? = some (.inl (0, n4))) (q8 : ¬ (Int32.ofNat n4 ≤ l2)) (q9 : ¬ ((r0 * (2 : Int32)) + r1 < (10 : Int32))) : xm_E X P d co_X3_spotOf 0 [some (.ref l0), some (.int l1), some (.int l2), none, none] [] h (some (.int (-1 : Int32))) h2 := by
  refine xm_E_s r_X3_spotOf_0 rfl rfl ?_
  refine xm_E_cs [.int l1] [] r_X3_spotOf_1 rfl rfl rfl (Nat.le_of_ble_eq_true rfl) rfl q0 ?_
  refine xm_E_s r_X3_spotOf_2 rfl rfl ?_
  refine xm_E_s r_X3_spotOf_3 rfl rfl ?_
  refine xm_E_s r_X3_spotOf_4 rfl rfl ?_
  refine xm_E_cs [.int l1] [.int (r0 * (2 : Int32))] r_X3_spotOf_5 rfl rfl rfl (Nat.le_of_ble_eq_true rfl) rfl q1 ?_
  refine xm_E_s r_X3_spotOf_6 rfl rfl ?_
  refine xm_E_s (ls1 := [some (.ref l0), some (.int l1), some (.int l2), some (.int ((r0 * (2 : Int32)) + r1)), none]) r_X3_spotOf_7 rfl rfl ?_
  refine xm_E_s r_X3_spotOf_8 rfl rfl ?_
  refine xm_E_cs [.int l1] [] r_X3_spotOf_9 rfl rfl rfl (Nat.le_of_ble_eq_true rfl) rfl q2 ?_
  refine xm_E_s r_X3_spotOf_10 rfl rfl ?_
  refine xm_E_t q3 ?_
  refine xm_E_s r_X3_spotOf_11 rfl rfl ?_
  refine xm_E_s r_X3_spotOf_12 rfl rfl ?_
  refine xm_E_f q4 ?_
  refine xm_E_s r_X3_spotOf_13 rfl rfl ?_
  refine xm_E_s r_X3_spotOf_14 rfl rfl ?_
  refine xm_E_s r_X3_spotOf_15 rfl (xm_T_gr rfl q5 rfl rfl q6) ?_
  refine xm_E_s r_X3_spotOf_16 rfl (xm_T_alen rfl q7 (by decide)) ?_
  refine xm_E_s r_X3_spotOf_17 rfl rfl ?_
  refine xm_E_f q8 ?_
  refine xm_E_s r_X3_spotOf_18 rfl rfl ?_
  refine xm_E_s r_X3_spotOf_19 rfl rfl ?_
  refine xm_E_s r_X3_spotOf_20 rfl rfl ?_
  refine xm_E_f q9 ?_
  refine xm_E_s r_X3_spotOf_21 rfl rfl ?_
  exact xm_E_iret r_X3_spotOf_22 rfl rfl
theorem p_X3_spotOf_0_12 {X : xm_X} {P : List xm_M} {d : Nat} {h : xm_H} {l0 : Nat} {l1 : Int32} {l2 : Int32} {h0 : xm_H} {r0 : Int32} {h1 : xm_H} {r1 : Int32} {h2 : xm_H} {r2 : Int32} (q0 : xm_V X P d 40 [.int l1] h (some (.int r0)) h0) (q1 : xm_V X P d 41 [.int l1] h0 (some (.int r1)) h1) (q2 : xm_V X P d 42 [.int l1] h1 (some (.int r2)) h2) (q3 : ¬ (r2 = (0 : Int32))) : xm_E X P d co_X3_spotOf 0 [some (.ref l0), some (.int l1), some (.int l2), none, none] [] h (some (.int (-1 : Int32))) h2 := by
  refine xm_E_s r_X3_spotOf_0 rfl rfl ?_
  refine xm_E_cs [.int l1] [] r_X3_spotOf_1 rfl rfl rfl (Nat.le_of_ble_eq_true rfl) rfl q0 ?_
  refine xm_E_s r_X3_spotOf_2 rfl rfl ?_
  refine xm_E_s r_X3_spotOf_3 rfl rfl ?_
  refine xm_E_s r_X3_spotOf_4 rfl rfl ?_
  refine xm_E_cs [.int l1] [.int (r0 * (2 : Int32))] r_X3_spotOf_5 rfl rfl rfl (Nat.le_of_ble_eq_true rfl) rfl q1 ?_
  refine xm_E_s r_X3_spotOf_6 rfl rfl ?_
  refine xm_E_s (ls1 := [some (.ref l0), some (.int l1), some (.int l2), some (.int ((r0 * (2 : Int32)) + r1)), none]) r_X3_spotOf_7 rfl rfl ?_
  refine xm_E_s r_X3_spotOf_8 rfl rfl ?_
  refine xm_E_cs [.int l1] [] r_X3_spotOf_9 rfl rfl rfl (Nat.le_of_ble_eq_true rfl) rfl q2 ?_
  refine xm_E_s r_X3_spotOf_10 rfl rfl ?_
  refine xm_E_f q3 ?_
  refine xm_E_s r_X3_spotOf_21 rfl rfl ?_
  exact xm_E_iret r_X3_spotOf_22 rfl rfl
theorem r_X3_expand_0 : co_X3_expand[0]? = some ((0, .aload_n 0, 0, 0, 0, 0, 0, 0, []) : xm_I) := rfl
theorem r_X3_expand_1 : co_X3_expand[1]? = some ((1, .getfield 18, 342, 3, 2, 2, 0, 0, []) : xm_I) := rfl
theorem r_X3_expand_2 : co_X3_expand[2]? = some ((4, .iload_n 1, 0, 0, 0, 0, 0, 0, []) : xm_I) := rfl
theorem r_X3_expand_3 : co_X3_expand[3]? = some ((5, .iaload, 0, 0, 0, 0, 0, 0, []) : xm_I) := rfl
theorem r_X3_expand_4 : co_X3_expand[4]? = some ((6, .istore_n 2, 0, 0, 0, 0, 0, 0, []) : xm_I) := rfl
theorem r_X3_expand_5 : co_X3_expand[5]? = some ((7, .iload_n 2, 0, 0, 0, 0, 0, 0, []) : xm_I) := rfl
theorem r_X3_expand_6 : co_X3_expand[6]? = some ((8, .invokestatic 83, 896, 38, 1, 0, 0, 0, []) : xm_I) := rfl
theorem r_X3_expand_7 : co_X3_expand[7]? = some ((11, .aload_n 0, 0, 0, 0, 0, 0, 0, []) : xm_I) := rfl
theorem r_X3_expand_8 : co_X3_expand[8]? = some ((12, .getfield 56, 353, 3, 13, 0, 0, 0, []) : xm_I) := rfl
theorem r_X3_expand_9 : co_X3_expand[9]? = some ((15, .if_icmp .gt 7, 0, 0, 12, 0, 0, 0, []) : xm_I) := rfl
theorem r_X3_expand_10 : co_X3_expand[10]? = some ((18, .iconst 1, 0, 0, 0, 0, 1, 0, []) : xm_I) := rfl
theorem r_X3_expand_11 : co_X3_expand[11]? = some ((19, .goto 4, 0, 0, 13, 0, 0, 0, []) : xm_I) := rfl
theorem r_X3_expand_12 : co_X3_expand[12]? = some ((22, .iconst 0, 0, 0, 0, 0, 0, 0, []) : xm_I) := rfl
theorem r_X3_expand_13 : co_X3_expand[13]? = some ((23, .istore_n 3, 0, 0, 0, 0, 0, 0, []) : xm_I) := rfl
theorem r_X3_expand_14 : co_X3_expand[14]? = some ((24, .iconst 0, 0, 0, 0, 0, 0, 0, []) : xm_I) := rfl
theorem r_X3_expand_15 : co_X3_expand[15]? = some ((25, .istore 4, 0, 0, 0, 0, 0, 0, []) : xm_I) := rfl
theorem r_X3_expand_16 : co_X3_expand[16]? = some ((27, .iload 4, 0, 0, 0, 0, 0, 0, []) : xm_I) := rfl
theorem r_X3_expand_17 : co_X3_expand[17]? = some ((29, .bipush 10, 0, 0, 0, 0, 10, 0, []) : xm_I) := rfl
theorem r_X3_expand_18 : co_X3_expand[18]? = some ((31, .if_icmp .ge 86, 0, 0, 63, 0, 0, 0, []) : xm_I) := rfl
theorem r_X3_expand_19 : co_X3_expand[19]? = some ((34, .aload_n 0, 0, 0, 0, 0, 0, 0, []) : xm_I) := rfl
theorem r_X3_expand_20 : co_X3_expand[20]? = some ((35, .getfield 50, 351, 3, 11, 0, 0, 0, []) : xm_I) := rfl
theorem r_X3_expand_21 : co_X3_expand[21]? = some ((38, .iload 4, 0, 0, 0, 0, 0, 0, []) : xm_I) := rfl
theorem r_X3_expand_22 : co_X3_expand[22]? = some ((40, .ishr, 0, 0, 0, 0, 0, 0, []) : xm_I) := rfl
theorem r_X3_expand_23 : co_X3_expand[23]? = some ((41, .iconst 1, 0, 0, 0, 0, 1, 0, []) : xm_I) := rfl
theorem r_X3_expand_24 : co_X3_expand[24]? = some ((42, .iand, 0, 0, 0, 0, 0, 0, []) : xm_I) := rfl
theorem r_X3_expand_25 : co_X3_expand[25]? = some ((43, .iconst 1, 0, 0, 0, 0, 1, 0, []) : xm_I) := rfl
theorem r_X3_expand_26 : co_X3_expand[26]? = some ((44, .if_icmp .ne 30, 0, 0, 40, 0, 0, 0, []) : xm_I) := rfl
theorem r_X3_expand_27 : co_X3_expand[27]? = some ((47, .iload 4, 0, 0, 0, 0, 0, 0, []) : xm_I) := rfl
theorem r_X3_expand_28 : co_X3_expand[28]? = some ((49, .iconst 2, 0, 0, 0, 0, 2, 0, []) : xm_I) := rfl
theorem r_X3_expand_29 : co_X3_expand[29]? = some ((50, .if_icmp .gt 7, 0, 0, 32, 0, 0, 0, []) : xm_I) := rfl
theorem r_X3_expand_30 : co_X3_expand[30]? = some ((53, .iload_n 3, 0, 0, 0, 0, 0, 0, []) : xm_I) := rfl
theorem r_X3_expand_31 : co_X3_expand[31]? = some ((54, .ifCond .eq 20, 0, 0, 40, 0, 0, 0, []) : xm_I) := rfl
theorem r_X3_expand_32 : co_X3_expand[32]? = some ((57, .iload_n 2, 0, 0, 0, 0, 0, 0, []) : xm_I) := rfl
theorem r_X3_expand_33 : co_X3_expand[33]? = some ((58, .iload 4, 0, 0, 0, 0, 0, 0, []) : xm_I) := rfl
theorem r_X3_expand_34 : co_X3_expand[34]? = some ((60, .aload_n 0, 0, 0, 0, 0, 0, 0, []) : xm_I) := rfl
theorem r_X3_expand_35 : co_X3_expand[35]? = some ((61, .getfield 53, 352, 3, 12, 0, 0, 0, []) : xm_I) := rfl
theorem r_X3_expand_36 : co_X3_expand[36]? = some ((64, .invokestatic 88, 914, 47, 3, 0, 0, 0, []) : xm_I) := rfl
theorem r_X3_expand_37 : co_X3_expand[37]? = some ((67, .ifCond .eq 7, 0, 0, 40, 0, 0, 0, []) : xm_I) := rfl
theorem r_X3_expand_38 : co_X3_expand[38]? = some ((70, .iconst 1, 0, 0, 0, 0, 1, 0, []) : xm_I) := rfl
theorem r_X3_expand_39 : co_X3_expand[39]? = some ((71, .goto 4, 0, 0, 41, 0, 0, 0, []) : xm_I) := rfl
theorem r_X3_expand_40 : co_X3_expand[40]? = some ((74, .iconst 0, 0, 0, 0, 0, 0, 0, []) : xm_I) := rfl
theorem r_X3_expand_41 : co_X3_expand[41]? = some ((75, .istore 5, 0, 0, 0, 0, 0, 0, []) : xm_I) := rfl
theorem r_X3_expand_42 : co_X3_expand[42]? = some ((77, .aload_n 0, 0, 0, 0, 0, 0, 0, []) : xm_I) := rfl
theorem r_X3_expand_43 : co_X3_expand[43]? = some ((78, .getfield 21, 343, 3, 3, 2, 0, 0, []) : xm_I) := rfl
theorem r_X3_expand_44 : co_X3_expand[44]? = some ((81, .iload_n 1, 0, 0, 0, 0, 0, 0, []) : xm_I) := rfl
theorem r_X3_expand_45 : co_X3_expand[45]? = some ((82, .bipush 10, 0, 0, 0, 0, 10, 0, []) : xm_I) := rfl
theorem r_X3_expand_46 : co_X3_expand[46]? = some ((84, .imul, 0, 0, 0, 0, 0, 0, []) : xm_I) := rfl
theorem r_X3_expand_47 : co_X3_expand[47]? = some ((85, .iload 4, 0, 0, 0, 0, 0, 0, []) : xm_I) := rfl
theorem r_X3_expand_48 : co_X3_expand[48]? = some ((87, .iadd, 0, 0, 0, 0, 0, 0, []) : xm_I) := rfl
theorem r_X3_expand_49 : co_X3_expand[49]? = some ((88, .iload 5, 0, 0, 0, 0, 0, 0, []) : xm_I) := rfl
theorem r_X3_expand_50 : co_X3_expand[50]? = some ((90, .ifCond .eq 19, 0, 0, 59, 0, 0, 0, []) : xm_I) := rfl
theorem r_X3_expand_51 : co_X3_expand[51]? = some ((93, .aload_n 0, 0, 0, 0, 0, 0, 0, []) : xm_I) := rfl
theorem r_X3_expand_52 : co_X3_expand[52]? = some ((94, .iload_n 2, 0, 0, 0, 0, 0, 0, []) : xm_I) := rfl
theorem r_X3_expand_53 : co_X3_expand[53]? = some ((95, .iload 4, 0, 0, 0, 0, 0, 0, []) : xm_I) := rfl
theorem r_X3_expand_54 : co_X3_expand[54]? = some ((97, .invokestatic 92, 915, 52, 2, 0, 0, 0, []) : xm_I) := rfl
theorem r_X3_expand_55 : co_X3_expand[55]? = some ((100, .iload_n 1, 0, 0, 0, 0, 0, 0, []) : xm_I) := rfl
theorem r_X3_expand_56 : co_X3_expand[56]? = some ((101, .iload 4, 0, 0, 0, 0, 0, 0, []) : xm_I) := rfl
theorem r_X3_expand_57 : co_X3_expand[57]? = some ((103, .invokevirtual 62, 899, 84, 4, 3, 0, 0, []) : xm_I) := rfl
theorem r_X3_expand_58 : co_X3_expand[58]? = some ((106, .goto 4, 0, 0, 60, 0, 0, 0, []) : xm_I) := rfl
theorem r_X3_expand_59 : co_X3_expand[59]? = some ((109, .iconst (-1), 0, 0, 0, 0, (-1), 0, []) : xm_I) := rfl
theorem r_X3_expand_60 : co_X3_expand[60]? = some ((110, .iastore, 0, 0, 0, 0, 0, 0, []) : xm_I) := rfl
theorem r_X3_expand_61 : co_X3_expand[61]? = some ((111, .iinc 4 1, 0, 0, 0, 0, 1, 0, []) : xm_I) := rfl
theorem r_X3_expand_62 : co_X3_expand[62]? = some ((114, .goto (-87), 0, 0, 16, 0, 0, 0, []) : xm_I) := rfl
theorem r_X3_expand_63 : co_X3_expand[63]? = some ((117, .return_, 0, 0, 0, 0, 0, 0, []) : xm_I) := rfl
theorem p_X3_expand_0_0 {X : xm_X} {P : List xm_M} {d : Nat} {h : xm_H} {l0 : Nat} {l1 : Int32} {v0 : Nat} {n1 : Nat} {h2 : xm_H} {r2 : Int32} {ro : Option Value} {ho : xm_H} (q0 : X.1[l0]? = some (.inr 3)) (q1 : h.2.2 l0 2 = some v0) (q2 : X.1[v0]? = some (.inl (0, n1))) (q3 : ¬ (l1 < 0 ∨ n1 ≤ l1.toNatClampNeg)) (q4 : xm_V X P d 38 [.int (h.1 v0 l1.toNatClampNeg)] h (some (.int r2)) h2) (q5 : h2.1 l0 13 < r2) (K : xm_E X P d co_X3_expand 16 [some (.ref l0), some (.int l1), some (.int (h.1 v0 l1.toNatClampNeg)), some (.int (0 : Int32)), some (.int (0 : Int32)), none] [] h2 ro ho) : xm_E X P d co_X3_expand 0 [some (.ref l0), some (.int l1), none, none, none, none] [] h ro ho := by
  refine xm_E_s r_X3_expand_0 rfl rfl ?_
  refine xm_E_s r_X3_expand_1 rfl (xm_T_gr rfl q0 rfl rfl q1) ?_
  refine xm_E_s r_X3_expand_2 rfl rfl ?_
  refine xm_E_s r_X3_expand_3 rfl (xm_T_iald rfl q2 (by decide) q3) ?_
  refine xm_E_s (ls1 := [some (.ref l0), some (.int l1), some (.int (h.1 v0 l1.toNatClampNeg)), none, none, none]) r_X3_expand_4 rfl rfl ?_
  refine xm_E_s r_X3_expand_5 rfl rfl ?_
  refine xm_E_cs [.int (h.1 v0 l1.toNatClampNeg)] [] r_X3_expand_6 rfl rfl rfl (Nat.le_of_ble_eq_true rfl) rfl q4 ?_
  refine xm_E_s r_X3_expand_7 rfl rfl ?_
  refine xm_E_s r_X3_expand_8 rfl (xm_T_gi rfl q0 rfl (Or.inl rfl)) ?_
  refine xm_E_s r_X3_expand_9 rfl rfl ?_
  refine xm_E_t q5 ?_
  refine xm_E_s r_X3_expand_12 rfl rfl ?_
  refine xm_E_s (ls1 := [some (.ref l0), some (.int l1), some (.int (h.1 v0 l1.toNatClampNeg)), some (.int (0 : Int32)), none, none]) r_X3_expand_13 rfl rfl ?_
  refine xm_E_s r_X3_expand_14 rfl rfl ?_
  refine xm_E_s (ls1 := [some (.ref l0), some (.int l1), some (.int (h.1 v0 l1.toNatClampNeg)), some (.int (0 : Int32)), some (.int (0 : Int32)), none]) r_X3_expand_15 rfl rfl ?_
  exact K
theorem p_X3_expand_0_1 {X : xm_X} {P : List xm_M} {d : Nat} {h : xm_H} {l0 : Nat} {l1 : Int32} {v0 : Nat} {n1 : Nat} {h2 : xm_H} {r2 : Int32} {ro : Option Value} {ho : xm_H} (q0 : X.1[l0]? = some (.inr 3)) (q1 : h.2.2 l0 2 = some v0) (q2 : X.1[v0]? = some (.inl (0, n1))) (q3 : ¬ (l1 < 0 ∨ n1 ≤ l1.toNatClampNeg)) (q4 : xm_V X P d 38 [.int (h.1 v0 l1.toNatClampNeg)] h (some (.int r2)) h2) (q5 : ¬ (h2.1 l0 13 < r2)) (K : xm_E X P d co_X3_expand 16 [some (.ref l0), some (.int l1), some (.int (h.1 v0 l1.toNatClampNeg)), some (.int (1 : Int32)), some (.int (0 : Int32)), none] [] h2 ro ho) : xm_E X P d co_X3_expand 0 [some (.ref l0), some (.int l1), none, none, none, none] [] h ro ho := by
  refine xm_E_s r_X3_expand_0 rfl rfl ?_
  refine xm_E_s r_X3_expand_1 rfl (xm_T_gr rfl q0 rfl rfl q1) ?_
  refine xm_E_s r_X3_expand_2 rfl rfl ?_
  refine xm_E_s r_X3_expand_3 rfl (xm_T_iald rfl q2 (by decide) q3) ?_
  refine xm_E_s (ls1 := [some (.ref l0), some (.int l1), some (.int (h.1 v0 l1.toNatClampNeg)), none, none, none]) r_X3_expand_4 rfl rfl ?_
  refine xm_E_s r_X3_expand_5 rfl rfl ?_
  refine xm_E_cs [.int (h.1 v0 l1.toNatClampNeg)] [] r_X3_expand_6 rfl rfl rfl (Nat.le_of_ble_eq_true rfl) rfl q4 ?_
  refine xm_E_s r_X3_expand_7 rfl rfl ?_
  refine xm_E_s r_X3_expand_8 rfl (xm_T_gi rfl q0 rfl (Or.inl rfl)) ?_
  refine xm_E_s r_X3_expand_9 rfl rfl ?_
  refine xm_E_f q5 ?_
  refine xm_E_s r_X3_expand_10 rfl rfl ?_
  refine xm_E_s r_X3_expand_11 rfl rfl ?_
  refine xm_E_s (ls1 := [some (.ref l0), some (.int l1), some (.int (h.1 v0 l1.toNatClampNeg)), some (.int (1 : Int32)), none, none]) r_X3_expand_13 rfl rfl ?_
  refine xm_E_s r_X3_expand_14 rfl rfl ?_
  refine xm_E_s (ls1 := [some (.ref l0), some (.int l1), some (.int (h.1 v0 l1.toNatClampNeg)), some (.int (1 : Int32)), some (.int (0 : Int32)), none]) r_X3_expand_15 rfl rfl ?_
  exact K
theorem p_X3_expand_16_0 {X : xm_X} {P : List xm_M} {d : Nat} {h : xm_H} {l0 : Nat} {l1 : Int32} {l2 : Int32} {l3 : Int32} {l4 : Int32} {l5 : Option Value} (q0 : (10 : Int32) ≤ l4) : xm_E X P d co_X3_expand 16 [some (.ref l0), some (.int l1), some (.int l2), some (.int l3), some (.int l4), l5] [] h none h := by
  refine xm_E_s r_X3_expand_16 rfl rfl ?_
  refine xm_E_s r_X3_expand_17 rfl rfl ?_
  refine xm_E_s r_X3_expand_18 rfl rfl ?_
  refine xm_E_t q0 ?_
  exact xm_E_ret r_X3_expand_63 rfl
theorem p_X3_expand_16_1 {X : xm_X} {P : List xm_M} {d : Nat} {h : xm_H} {l0 : Nat} {l1 : Int32} {l2 : Int32} {l3 : Int32} {l4 : Int32} {l5 : Option Value} {h0 : xm_H} {r0 : Int32} {v1 : Nat} {n2 : Nat} {ro : Option Value} {ho : xm_H} (q0 : ¬ ((10 : Int32) ≤ l4)) (q1 : X.1[l0]? = some (.inr 3)) (q2 : ((h.1 l0 11) >>> (l4 &&& 31)) &&& (1 : Int32) = (1 : Int32)) (q3 : (2 : Int32) < l4) (q4 : xm_V X P d 47 [.int l2, .int l4, .int (h.1 l0 12)] h (some (.int r0)) h0) (q5 : r0 = (0 : Int32)) (q6 : h0.2.2 l0 3 = some v1) (q7 : X.1[v1]? = some (.inl (0, n2))) (q8 : ¬ ((l1 * (10 : Int32)) + l4 < 0 ∨ n2 ≤ ((l1 * (10 : Int32)) + l4).toNatClampNeg)) (K : xm_E X P d co_X3_expand 16 [some (.ref l0), some (.int l1), some (.int l2), some (.int l3), some (.int (l4 + (1 : Int32))), some (.int (0 : Int32))] [] (xm_si h0 v1 (((l1 * (10 : Int32)) + l4).toNatClampNeg) (-1 : Int32)) ro ho) : xm_E X P d co_X3_expand 16 [some (.ref l0), some (.int l1), some (.int l2), some (.int l3), some (.int l4), l5] [] h ro ho := by
  refine xm_E_s r_X3_expand_16 rfl rfl ?_
  refine xm_E_s r_X3_expand_17 rfl rfl ?_
  refine xm_E_s r_X3_expand_18 rfl rfl ?_
  refine xm_E_f q0 ?_
  refine xm_E_s r_X3_expand_19 rfl rfl ?_
  refine xm_E_s r_X3_expand_20 rfl (xm_T_gi rfl q1 rfl (Or.inl rfl)) ?_
  refine xm_E_s r_X3_expand_21 rfl rfl ?_
  refine xm_E_s r_X3_expand_22 rfl rfl ?_
  refine xm_E_s r_X3_expand_23 rfl rfl ?_
  refine xm_E_s r_X3_expand_24 rfl rfl ?_
  refine xm_E_s r_X3_expand_25 rfl rfl ?_
  refine xm_E_s r_X3_expand_26 rfl rfl ?_
  refine xm_E_t q2 ?_
  refine xm_E_s r_X3_expand_27 rfl rfl ?_
  refine xm_E_s r_X3_expand_28 rfl rfl ?_
  refine xm_E_s r_X3_expand_29 rfl rfl ?_
  refine xm_E_t q3 ?_
  refine xm_E_s r_X3_expand_32 rfl rfl ?_
  refine xm_E_s r_X3_expand_33 rfl rfl ?_
  refine xm_E_s r_X3_expand_34 rfl rfl ?_
  refine xm_E_s r_X3_expand_35 rfl (xm_T_gi rfl q1 rfl (Or.inl rfl)) ?_
  refine xm_E_cs [.int l2, .int l4, .int (h.1 l0 12)] [] r_X3_expand_36 rfl rfl rfl (Nat.le_of_ble_eq_true rfl) rfl q4 ?_
  refine xm_E_s r_X3_expand_37 rfl rfl ?_
  refine xm_E_t q5 ?_
  refine xm_E_s r_X3_expand_40 rfl rfl ?_
  refine xm_E_s (ls1 := [some (.ref l0), some (.int l1), some (.int l2), some (.int l3), some (.int l4), some (.int (0 : Int32))]) r_X3_expand_41 rfl rfl ?_
  refine xm_E_s r_X3_expand_42 rfl rfl ?_
  refine xm_E_s r_X3_expand_43 rfl (xm_T_gr rfl q1 rfl rfl q6) ?_
  refine xm_E_s r_X3_expand_44 rfl rfl ?_
  refine xm_E_s r_X3_expand_45 rfl rfl ?_
  refine xm_E_s r_X3_expand_46 rfl rfl ?_
  refine xm_E_s r_X3_expand_47 rfl rfl ?_
  refine xm_E_s r_X3_expand_48 rfl rfl ?_
  refine xm_E_s r_X3_expand_49 rfl rfl ?_
  refine xm_E_s r_X3_expand_50 rfl rfl ?_
  show xm_E X P d co_X3_expand 59 _ _ _ _ _
  refine xm_E_s r_X3_expand_59 rfl rfl ?_
  refine xm_E_s r_X3_expand_60 rfl (xm_T_asi rfl q7 q8) ?_
  refine xm_E_s (ls1 := [some (.ref l0), some (.int l1), some (.int l2), some (.int l3), some (.int (l4 + (1 : Int32))), some (.int (0 : Int32))]) r_X3_expand_61 rfl rfl ?_
  refine xm_E_s r_X3_expand_62 rfl rfl ?_
  exact K
theorem p_X3_expand_16_2 {X : xm_X} {P : List xm_M} {d : Nat} {h : xm_H} {l0 : Nat} {l1 : Int32} {l2 : Int32} {l3 : Int32} {l4 : Int32} {l5 : Option Value} {h0 : xm_H} {r0 : Int32} {v1 : Nat} {h2 : xm_H} {r2 : Int32} {h3 : xm_H} {r3 : Int32} {n4 : Nat} {ro : Option Value} {ho : xm_H} (q0 : ¬ ((10 : Int32) ≤ l4)) (q1 : X.1[l0]? = some (.inr 3)) (q2 : ((h.1 l0 11) >>> (l4 &&& 31)) &&& (1 : Int32) = (1 : Int32)) (q3 : (2 : Int32) < l4) (q4 : xm_V X P d 47 [.int l2, .int l4, .int (h.1 l0 12)] h (some (.int r0)) h0) (q5 : ¬ (r0 = (0 : Int32))) (q6 : h0.2.2 l0 3 = some v1) (q7 : xm_V X P d 52 [.int l2, .int l4] h0 (some (.int r2)) h2) (q8 : xm_V X P d 84 [.ref l0, .int r2, .int l1, .int l4] h2 (some (.int r3)) h3) (q9 : X.1[v1]? = some (.inl (0, n4))) (q10 : ¬ ((l1 * (10 : Int32)) + l4 < 0 ∨ n4 ≤ ((l1 * (10 : Int32)) + l4).toNatClampNeg)) (K : xm_E X P d co_X3_expand 16 [some (.ref l0), some (.int l1), some (.int l2), some (.int l3), some (.int (l4 + (1 : Int32))), some (.int (1 : Int32))] [] (xm_si h3 v1 (((l1 * (10 : Int32)) + l4).toNatClampNeg) r3) ro ho) : xm_E X P d co_X3_expand 16 [some (.ref l0), some (.int l1), some (.int l2), some (.int l3), some (.int l4), l5] [] h ro ho := by
  refine xm_E_s r_X3_expand_16 rfl rfl ?_
  refine xm_E_s r_X3_expand_17 rfl rfl ?_
  refine xm_E_s r_X3_expand_18 rfl rfl ?_
  refine xm_E_f q0 ?_
  refine xm_E_s r_X3_expand_19 rfl rfl ?_
  refine xm_E_s r_X3_expand_20 rfl (xm_T_gi rfl q1 rfl (Or.inl rfl)) ?_
  refine xm_E_s r_X3_expand_21 rfl rfl ?_
  refine xm_E_s r_X3_expand_22 rfl rfl ?_
  refine xm_E_s r_X3_expand_23 rfl rfl ?_
  refine xm_E_s r_X3_expand_24 rfl rfl ?_
  refine xm_E_s r_X3_expand_25 rfl rfl ?_
  refine xm_E_s r_X3_expand_26 rfl rfl ?_
  refine xm_E_t q2 ?_
  refine xm_E_s r_X3_expand_27 rfl rfl ?_
  refine xm_E_s r_X3_expand_28 rfl rfl ?_
  refine xm_E_s r_X3_expand_29 rfl rfl ?_
  refine xm_E_t q3 ?_
  refine xm_E_s r_X3_expand_32 rfl rfl ?_
  refine xm_E_s r_X3_expand_33 rfl rfl ?_
  refine xm_E_s r_X3_expand_34 rfl rfl ?_
  refine xm_E_s r_X3_expand_35 rfl (xm_T_gi rfl q1 rfl (Or.inl rfl)) ?_
  refine xm_E_cs [.int l2, .int l4, .int (h.1 l0 12)] [] r_X3_expand_36 rfl rfl rfl (Nat.le_of_ble_eq_true rfl) rfl q4 ?_
  refine xm_E_s r_X3_expand_37 rfl rfl ?_
  refine xm_E_f q5 ?_
  refine xm_E_s r_X3_expand_38 rfl rfl ?_
  refine xm_E_s r_X3_expand_39 rfl rfl ?_
  refine xm_E_s (ls1 := [some (.ref l0), some (.int l1), some (.int l2), some (.int l3), some (.int l4), some (.int (1 : Int32))]) r_X3_expand_41 rfl rfl ?_
  refine xm_E_s r_X3_expand_42 rfl rfl ?_
  refine xm_E_s r_X3_expand_43 rfl (xm_T_gr rfl q1 rfl rfl q6) ?_
  refine xm_E_s r_X3_expand_44 rfl rfl ?_
  refine xm_E_s r_X3_expand_45 rfl rfl ?_
  refine xm_E_s r_X3_expand_46 rfl rfl ?_
  refine xm_E_s r_X3_expand_47 rfl rfl ?_
  refine xm_E_s r_X3_expand_48 rfl rfl ?_
  refine xm_E_s r_X3_expand_49 rfl rfl ?_
  refine xm_E_s r_X3_expand_50 rfl rfl ?_
  show xm_E X P d co_X3_expand 51 _ _ _ _ _
  refine xm_E_s r_X3_expand_51 rfl rfl ?_
  refine xm_E_s r_X3_expand_52 rfl rfl ?_
  refine xm_E_s r_X3_expand_53 rfl rfl ?_
  refine xm_E_cs [.int l2, .int l4] [.ref l0, .int ((l1 * (10 : Int32)) + l4), .ref v1] r_X3_expand_54 rfl rfl rfl (Nat.le_of_ble_eq_true rfl) rfl q7 ?_
  refine xm_E_s r_X3_expand_55 rfl rfl ?_
  refine xm_E_s r_X3_expand_56 rfl rfl ?_
  refine xm_E_cv [.ref l0, .int r2, .int l1, .int l4] [.int ((l1 * (10 : Int32)) + l4), .ref v1] r_X3_expand_57 rfl rfl (Nat.le_of_ble_eq_true rfl) (xm_rc q1 (by decide)) rfl q8 ?_
  refine xm_E_s r_X3_expand_58 rfl rfl ?_
  refine xm_E_s r_X3_expand_60 rfl (xm_T_asi rfl q9 q10) ?_
  refine xm_E_s (ls1 := [some (.ref l0), some (.int l1), some (.int l2), some (.int l3), some (.int (l4 + (1 : Int32))), some (.int (1 : Int32))]) r_X3_expand_61 rfl rfl ?_
  refine xm_E_s r_X3_expand_62 rfl rfl ?_
  exact K
theorem p_X3_expand_16_3 {X : xm_X} {P : List xm_M} {d : Nat} {h : xm_H} {l0 : Nat} {l1 : Int32} {l2 : Int32} {l3 : Int32} {l4 : Int32} {l5 : Option Value} {v0 : Nat} {n1 : Nat} {ro : Option Value} {ho : xm_H} (q0 : ¬ ((10 : Int32) ≤ l4)) (q1 : X.1[l0]? = some (.inr 3)) (q2 : ((h.1 l0 11) >>> (l4 &&& 31)) &&& (1 : Int32) = (1 : Int32)) (q3 : ¬ ((2 : Int32) < l4)) (q4 : l3 = (0 : Int32)) (q5 : h.2.2 l0 3 = some v0) (q6 : X.1[v0]? = some (.inl (0, n1))) (q7 : ¬ ((l1 * (10 : Int32)) + l4 < 0 ∨ n1 ≤ ((l1 * (10 : Int32)) + l4).toNatClampNeg)) (K : xm_E X P d co_X3_expand 16 [some (.ref l0), some (.int l1), some (.int l2), some (.int l3), some (.int (l4 + (1 : Int32))), some (.int (0 : Int32))] [] (xm_si h v0 (((l1 * (10 : Int32)) + l4).toNatClampNeg) (-1 : Int32)) ro ho) : xm_E X P d co_X3_expand 16 [some (.ref l0), some (.int l1), some (.int l2), some (.int l3), some (.int l4), l5] [] h ro ho := by
  refine xm_E_s r_X3_expand_16 rfl rfl ?_
  refine xm_E_s r_X3_expand_17 rfl rfl ?_
  refine xm_E_s r_X3_expand_18 rfl rfl ?_
  refine xm_E_f q0 ?_
  refine xm_E_s r_X3_expand_19 rfl rfl ?_
  refine xm_E_s r_X3_expand_20 rfl (xm_T_gi rfl q1 rfl (Or.inl rfl)) ?_
  refine xm_E_s r_X3_expand_21 rfl rfl ?_
  refine xm_E_s r_X3_expand_22 rfl rfl ?_
  refine xm_E_s r_X3_expand_23 rfl rfl ?_
  refine xm_E_s r_X3_expand_24 rfl rfl ?_
  refine xm_E_s r_X3_expand_25 rfl rfl ?_
  refine xm_E_s r_X3_expand_26 rfl rfl ?_
  refine xm_E_t q2 ?_
  refine xm_E_s r_X3_expand_27 rfl rfl ?_
  refine xm_E_s r_X3_expand_28 rfl rfl ?_
  refine xm_E_s r_X3_expand_29 rfl rfl ?_
  refine xm_E_f q3 ?_
  refine xm_E_s r_X3_expand_30 rfl rfl ?_
  refine xm_E_s r_X3_expand_31 rfl rfl ?_
  refine xm_E_t q4 ?_
  refine xm_E_s r_X3_expand_40 rfl rfl ?_
  refine xm_E_s (ls1 := [some (.ref l0), some (.int l1), some (.int l2), some (.int l3), some (.int l4), some (.int (0 : Int32))]) r_X3_expand_41 rfl rfl ?_
  refine xm_E_s r_X3_expand_42 rfl rfl ?_
  refine xm_E_s r_X3_expand_43 rfl (xm_T_gr rfl q1 rfl rfl q5) ?_
  refine xm_E_s r_X3_expand_44 rfl rfl ?_
  refine xm_E_s r_X3_expand_45 rfl rfl ?_
  refine xm_E_s r_X3_expand_46 rfl rfl ?_
  refine xm_E_s r_X3_expand_47 rfl rfl ?_
  refine xm_E_s r_X3_expand_48 rfl rfl ?_
  refine xm_E_s r_X3_expand_49 rfl rfl ?_
  refine xm_E_s r_X3_expand_50 rfl rfl ?_
  show xm_E X P d co_X3_expand 59 _ _ _ _ _
  refine xm_E_s r_X3_expand_59 rfl rfl ?_
  refine xm_E_s r_X3_expand_60 rfl (xm_T_asi rfl q6 q7) ?_
  refine xm_E_s (ls1 := [some (.ref l0), some (.int l1), some (.int l2), some (.int l3), some (.int (l4 + (1 : Int32))), some (.int (0 : Int32))]) r_X3_expand_61 rfl rfl ?_
  refine xm_E_s r_X3_expand_62 rfl rfl ?_
  exact K
theorem p_X3_expand_16_4 {X : xm_X} {P : List xm_M} {d : Nat} {h : xm_H} {l0 : Nat} {l1 : Int32} {l2 : Int32} {l3 : Int32} {l4 : Int32} {l5 : Option Value} {h0 : xm_H} {r0 : Int32} {v1 : Nat} {n2 : Nat} {ro : Option Value} {ho : xm_H} (q0 : ¬ ((10 : Int32) ≤ l4)) (q1 : X.1[l0]? = some (.inr 3)) (q2 : ((h.1 l0 11) >>> (l4 &&& 31)) &&& (1 : Int32) = (1 : Int32)) (q3 : ¬ ((2 : Int32) < l4)) (q4 : ¬ (l3 = (0 : Int32))) (q5 : xm_V X P d 47 [.int l2, .int l4, .int (h.1 l0 12)] h (some (.int r0)) h0) (q6 : r0 = (0 : Int32)) (q7 : h0.2.2 l0 3 = some v1) (q8 : X.1[v1]? = some (.inl (0, n2))) (q9 : ¬ ((l1 * (10 : Int32)) + l4 < 0 ∨ n2 ≤ ((l1 * (10 : Int32)) + l4).toNatClampNeg)) (K : xm_E X P d co_X3_expand 16 [some (.ref l0), some (.int l1), some (.int l2), some (.int l3), some (.int (l4 + (1 : Int32))), some (.int (0 : Int32))] [] (xm_si h0 v1 (((l1 * (10 : Int32)) + l4).toNatClampNeg) (-1 : Int32)) ro ho) : xm_E X P d co_X3_expand 16 [some (.ref l0), some (.int l1), some (.int l2), some (.int l3), some (.int l4), l5] [] h ro ho := by
  refine xm_E_s r_X3_expand_16 rfl rfl ?_
  refine xm_E_s r_X3_expand_17 rfl rfl ?_
  refine xm_E_s r_X3_expand_18 rfl rfl ?_
  refine xm_E_f q0 ?_
  refine xm_E_s r_X3_expand_19 rfl rfl ?_
  refine xm_E_s r_X3_expand_20 rfl (xm_T_gi rfl q1 rfl (Or.inl rfl)) ?_
  refine xm_E_s r_X3_expand_21 rfl rfl ?_
  refine xm_E_s r_X3_expand_22 rfl rfl ?_
  refine xm_E_s r_X3_expand_23 rfl rfl ?_
  refine xm_E_s r_X3_expand_24 rfl rfl ?_
  refine xm_E_s r_X3_expand_25 rfl rfl ?_
  refine xm_E_s r_X3_expand_26 rfl rfl ?_
  refine xm_E_t q2 ?_
  refine xm_E_s r_X3_expand_27 rfl rfl ?_
  refine xm_E_s r_X3_expand_28 rfl rfl ?_
  refine xm_E_s r_X3_expand_29 rfl rfl ?_
  refine xm_E_f q3 ?_
  refine xm_E_s r_X3_expand_30 rfl rfl ?_
  refine xm_E_s r_X3_expand_31 rfl rfl ?_
  refine xm_E_f q4 ?_
  refine xm_E_s r_X3_expand_32 rfl rfl ?_
  refine xm_E_s r_X3_expand_33 rfl rfl ?_
  refine xm_E_s r_X3_expand_34 rfl rfl ?_
  refine xm_E_s r_X3_expand_35 rfl (xm_T_gi rfl q1 rfl (Or.inl rfl)) ?_
  refine xm_E_cs [.int l2, .int l4, .int (h.1 l0 12)] [] r_X3_expand_36 rfl rfl rfl (Nat.le_of_ble_eq_true rfl) rfl q5 ?_
  refine xm_E_s r_X3_expand_37 rfl rfl ?_
  refine xm_E_t q6 ?_
  refine xm_E_s r_X3_expand_40 rfl rfl ?_
  refine xm_E_s (ls1 := [some (.ref l0), some (.int l1), some (.int l2), some (.int l3), some (.int l4), some (.int (0 : Int32))]) r_X3_expand_41 rfl rfl ?_
  refine xm_E_s r_X3_expand_42 rfl rfl ?_
  refine xm_E_s r_X3_expand_43 rfl (xm_T_gr rfl q1 rfl rfl q7) ?_
  refine xm_E_s r_X3_expand_44 rfl rfl ?_
  refine xm_E_s r_X3_expand_45 rfl rfl ?_
  refine xm_E_s r_X3_expand_46 rfl rfl ?_
  refine xm_E_s r_X3_expand_47 rfl rfl ?_
  refine xm_E_s r_X3_expand_48 rfl rfl ?_
  refine xm_E_s r_X3_expand_49 rfl rfl ?_
  refine xm_E_s r_X3_expand_50 rfl rfl ?_
  show xm_E X P d co_X3_expand 59 _ _ _ _ _
  refine xm_E_s r_X3_expand_59 rfl rfl ?_
  refine xm_E_s r_X3_expand_60 rfl (xm_T_asi rfl q8 q9) ?_
  refine xm_E_s (ls1 := [some (.ref l0), some (.int l1), some (.int l2), some (.int l3), some (.int (l4 + (1 : Int32))), some (.int (0 : Int32))]) r_X3_expand_61 rfl rfl ?_
  refine xm_E_s r_X3_expand_62 rfl rfl ?_
  exact K
theorem p_X3_expand_16_5 {X : xm_X} {P : List xm_M} {d : Nat} {h : xm_H} {l0 : Nat} {l1 : Int32} {l2 : Int32} {l3 : Int32} {l4 : Int32} {l5 : Option Value} {h0 : xm_H} {r0 : Int32} {v1 : Nat} {h2 : xm_H} {r2 : Int32} {h3 : xm_H} {r3 : Int32} {n4 : Nat} {ro : Option Value} {ho : xm_H} (q0 : ¬ ((10 : Int32) ≤ l4)) (q1 : X.1[l0]? = some (.inr 3)) (q2 : ((h.1 l0 11) >>> (l4 &&& 31)) &&& (1 : Int32) = (1 : Int32)) (q3 : ¬ ((2 : Int32) < l4)) (q4 : ¬ (l3 = (0 : Int32))) (q5 : xm_V X P d 47 [.int l2, .int l4, .int (h.1 l0 12)] h (some (.int r0)) h0) (q6 : ¬ (r0 = (0 : Int32))) (q7 : h0.2.2 l0 3 = some v1) (q8 : xm_V X P d 52 [.int l2, .int l4] h0 (some (.int r2)) h2) (q9 : xm_V X P d 84 [.ref l0, .int r2, .int l1, .int l4] h2 (some (.int r3)) h3) (q10 : X.1[v1]? = some (.inl (0, n4))) (q11 : ¬ ((l1 * (10 : Int32)) + l4 < 0 ∨ n4 ≤ ((l1 * (10 : Int32)) + l4).toNatClampNeg)) (K : xm_E X P d co_X3_expand 16 [some (.ref l0), some (.int l1), some (.int l2), some (.int l3), some (.int (l4 + (1 : Int32))), some (.int (1 : Int32))] [] (xm_si h3 v1 (((l1 * (10 : Int32)) + l4).toNatClampNeg) r3) ro ho) : xm_E X P d co_X3_expand 16 [some (.ref l0), some (.int l1), some (.int l2), some (.int l3), some (.int l4), l5] [] h ro ho := by
  refine xm_E_s r_X3_expand_16 rfl rfl ?_
  refine xm_E_s r_X3_expand_17 rfl rfl ?_
  refine xm_E_s r_X3_expand_18 rfl rfl ?_
  refine xm_E_f q0 ?_
  refine xm_E_s r_X3_expand_19 rfl rfl ?_
  refine xm_E_s r_X3_expand_20 rfl (xm_T_gi rfl q1 rfl (Or.inl rfl)) ?_
  refine xm_E_s r_X3_expand_21 rfl rfl ?_
  refine xm_E_s r_X3_expand_22 rfl rfl ?_
  refine xm_E_s r_X3_expand_23 rfl rfl ?_
  refine xm_E_s r_X3_expand_24 rfl rfl ?_
  refine xm_E_s r_X3_expand_25 rfl rfl ?_
  refine xm_E_s r_X3_expand_26 rfl rfl ?_
  refine xm_E_t q2 ?_
  refine xm_E_s r_X3_expand_27 rfl rfl ?_
  refine xm_E_s r_X3_expand_28 rfl rfl ?_
  refine xm_E_s r_X3_expand_29 rfl rfl ?_
  refine xm_E_f q3 ?_
  refine xm_E_s r_X3_expand_30 rfl rfl ?_
  refine xm_E_s r_X3_expand_31 rfl rfl ?_
  refine xm_E_f q4 ?_
  refine xm_E_s r_X3_expand_32 rfl rfl ?_
  refine xm_E_s r_X3_expand_33 rfl rfl ?_
  refine xm_E_s r_X3_expand_34 rfl rfl ?_
  refine xm_E_s r_X3_expand_35 rfl (xm_T_gi rfl q1 rfl (Or.inl rfl)) ?_
  refine xm_E_cs [.int l2, .int l4, .int (h.1 l0 12)] [] r_X3_expand_36 rfl rfl rfl (Nat.le_of_ble_eq_true rfl) rfl q5 ?_
  refine xm_E_s r_X3_expand_37 rfl rfl ?_
  refine xm_E_f q6 ?_
  refine xm_E_s r_X3_expand_38 rfl rfl ?_
  refine xm_E_s r_X3_expand_39 rfl rfl ?_
  refine xm_E_s (ls1 := [some (.ref l0), some (.int l1), some (.int l2), some (.int l3), some (.int l4), some (.int (1 : Int32))]) r_X3_expand_41 rfl rfl ?_
  refine xm_E_s r_X3_expand_42 rfl rfl ?_
  refine xm_E_s r_X3_expand_43 rfl (xm_T_gr rfl q1 rfl rfl q7) ?_
  refine xm_E_s r_X3_expand_44 rfl rfl ?_
  refine xm_E_s r_X3_expand_45 rfl rfl ?_
  refine xm_E_s r_X3_expand_46 rfl rfl ?_
  refine xm_E_s r_X3_expand_47 rfl rfl ?_
  refine xm_E_s r_X3_expand_48 rfl rfl ?_
  refine xm_E_s r_X3_expand_49 rfl rfl ?_
  refine xm_E_s r_X3_expand_50 rfl rfl ?_
  show xm_E X P d co_X3_expand 51 _ _ _ _ _
  refine xm_E_s r_X3_expand_51 rfl rfl ?_
  refine xm_E_s r_X3_expand_52 rfl rfl ?_
  refine xm_E_s r_X3_expand_53 rfl rfl ?_
  refine xm_E_cs [.int l2, .int l4] [.ref l0, .int ((l1 * (10 : Int32)) + l4), .ref v1] r_X3_expand_54 rfl rfl rfl (Nat.le_of_ble_eq_true rfl) rfl q8 ?_
  refine xm_E_s r_X3_expand_55 rfl rfl ?_
  refine xm_E_s r_X3_expand_56 rfl rfl ?_
  refine xm_E_cv [.ref l0, .int r2, .int l1, .int l4] [.int ((l1 * (10 : Int32)) + l4), .ref v1] r_X3_expand_57 rfl rfl (Nat.le_of_ble_eq_true rfl) (xm_rc q1 (by decide)) rfl q9 ?_
  refine xm_E_s r_X3_expand_58 rfl rfl ?_
  refine xm_E_s r_X3_expand_60 rfl (xm_T_asi rfl q10 q11) ?_
  refine xm_E_s (ls1 := [some (.ref l0), some (.int l1), some (.int l2), some (.int l3), some (.int (l4 + (1 : Int32))), some (.int (1 : Int32))]) r_X3_expand_61 rfl rfl ?_
  refine xm_E_s r_X3_expand_62 rfl rfl ?_
  exact K
theorem p_X3_expand_16_6 {X : xm_X} {P : List xm_M} {d : Nat} {h : xm_H} {l0 : Nat} {l1 : Int32} {l2 : Int32} {l3 : Int32} {l4 : Int32} {l5 : Option Value} {v0 : Nat} {n1 : Nat} {ro : Option Value} {ho : xm_H} (q0 : ¬ ((10 : Int32) ≤ l4)) (q1 : X.1[l0]? = some (.inr 3)) (q2 : ¬ (((h.1 l0 11) >>> (l4 &&& 31)) &&& (1 : Int32) = (1 : Int32))) (q3 : h.2.2 l0 3 = some v0) (q4 : X.1[v0]? = some (.inl (0, n1))) (q5 : ¬ ((l1 * (10 : Int32)) + l4 < 0 ∨ n1 ≤ ((l1 * (10 : Int32)) + l4).toNatClampNeg)) (K : xm_E X P d co_X3_expand 16 [some (.ref l0), some (.int l1), some (.int l2), some (.int l3), some (.int (l4 + (1 : Int32))), some (.int (0 : Int32))] [] (xm_si h v0 (((l1 * (10 : Int32)) + l4).toNatClampNeg) (-1 : Int32)) ro ho) : xm_E X P d co_X3_expand 16 [some (.ref l0), some (.int l1), some (.int l2), some (.int l3), some (.int l4), l5] [] h ro ho := by
  refine xm_E_s r_X3_expand_16 rfl rfl ?_
  refine xm_E_s r_X3_expand_17 rfl rfl ?_
  refine xm_E_s r_X3_expand_18 rfl rfl ?_
  refine xm_E_f q0 ?_
  refine xm_E_s r_X3_expand_19 rfl rfl ?_
  refine xm_E_s r_X3_expand_20 rfl (xm_T_gi rfl q1 rfl (Or.inl rfl)) ?_
  refine xm_E_s r_X3_expand_21 rfl rfl ?_
  refine xm_E_s r_X3_expand_22 rfl rfl ?_
  refine xm_E_s r_X3_expand_23 rfl rfl ?_
  refine xm_E_s r_X3_expand_24 rfl rfl ?_
  refine xm_E_s r_X3_expand_25 rfl rfl ?_
  refine xm_E_s r_X3_expand_26 rfl rfl ?_
  refine xm_E_f q2 ?_
  refine xm_E_s r_X3_expand_40 rfl rfl ?_
  refine xm_E_s (ls1 := [some (.ref l0), some (.int l1), some (.int l2), some (.int l3), some (.int l4), some (.int (0 : Int32))]) r_X3_expand_41 rfl rfl ?_
  refine xm_E_s r_X3_expand_42 rfl rfl ?_
  refine xm_E_s r_X3_expand_43 rfl (xm_T_gr rfl q1 rfl rfl q3) ?_
  refine xm_E_s r_X3_expand_44 rfl rfl ?_
  refine xm_E_s r_X3_expand_45 rfl rfl ?_
  refine xm_E_s r_X3_expand_46 rfl rfl ?_
  refine xm_E_s r_X3_expand_47 rfl rfl ?_
  refine xm_E_s r_X3_expand_48 rfl rfl ?_
  refine xm_E_s r_X3_expand_49 rfl rfl ?_
  refine xm_E_s r_X3_expand_50 rfl rfl ?_
  show xm_E X P d co_X3_expand 59 _ _ _ _ _
  refine xm_E_s r_X3_expand_59 rfl rfl ?_
  refine xm_E_s r_X3_expand_60 rfl (xm_T_asi rfl q4 q5) ?_
  refine xm_E_s (ls1 := [some (.ref l0), some (.int l1), some (.int l2), some (.int l3), some (.int (l4 + (1 : Int32))), some (.int (0 : Int32))]) r_X3_expand_61 rfl rfl ?_
  refine xm_E_s r_X3_expand_62 rfl rfl ?_
  exact K
theorem r_X3_firstWished_0 : co_X3_firstWished[0]? = some ((0, .iconst 0, 0, 0, 0, 0, 0, 0, []) : xm_I) := rfl
theorem r_X3_firstWished_1 : co_X3_firstWished[1]? = some ((1, .istore_n 2, 0, 0, 0, 0, 0, 0, []) : xm_I) := rfl
theorem r_X3_firstWished_2 : co_X3_firstWished[2]? = some ((2, .iload_n 2, 0, 0, 0, 0, 0, 0, []) : xm_I) := rfl
theorem r_X3_firstWished_3 : co_X3_firstWished[3]? = some ((3, .aload_n 0, 0, 0, 0, 0, 0, 0, []) : xm_I) := rfl
theorem r_X3_firstWished_4 : co_X3_firstWished[4]? = some ((4, .getfield 46, 354, 3, 14, 0, 0, 0, []) : xm_I) := rfl
theorem r_X3_firstWished_5 : co_X3_firstWished[5]? = some ((7, .if_icmp .ge 31, 0, 0, 20, 0, 0, 0, []) : xm_I) := rfl
theorem r_X3_firstWished_6 : co_X3_firstWished[6]? = some ((10, .iload_n 2, 0, 0, 0, 0, 0, 0, []) : xm_I) := rfl
theorem r_X3_firstWished_7 : co_X3_firstWished[7]? = some ((11, .sipush 640, 0, 0, 0, 0, 640, 0, []) : xm_I) := rfl
theorem r_X3_firstWished_8 : co_X3_firstWished[8]? = some ((14, .if_icmp .ge 24, 0, 0, 20, 0, 0, 0, []) : xm_I) := rfl
theorem r_X3_firstWished_9 : co_X3_firstWished[9]? = some ((17, .aload_n 1, 0, 0, 0, 0, 0, 0, []) : xm_I) := rfl
theorem r_X3_firstWished_10 : co_X3_firstWished[10]? = some ((18, .aload_n 0, 0, 0, 0, 0, 0, 0, []) : xm_I) := rfl
theorem r_X3_firstWished_11 : co_X3_firstWished[11]? = some ((19, .getfield 18, 342, 3, 2, 2, 0, 0, []) : xm_I) := rfl
theorem r_X3_firstWished_12 : co_X3_firstWished[12]? = some ((22, .iload_n 2, 0, 0, 0, 0, 0, 0, []) : xm_I) := rfl
theorem r_X3_firstWished_13 : co_X3_firstWished[13]? = some ((23, .iaload, 0, 0, 0, 0, 0, 0, []) : xm_I) := rfl
theorem r_X3_firstWished_14 : co_X3_firstWished[14]? = some ((24, .invokevirtual 111, 920, 88, 2, 7, 0, 0, []) : xm_I) := rfl
theorem r_X3_firstWished_15 : co_X3_firstWished[15]? = some ((27, .ifCond .eq 5, 0, 0, 18, 0, 0, 0, []) : xm_I) := rfl
theorem r_X3_firstWished_16 : co_X3_firstWished[16]? = some ((30, .iload_n 2, 0, 0, 0, 0, 0, 0, []) : xm_I) := rfl
theorem r_X3_firstWished_17 : co_X3_firstWished[17]? = some ((31, .ireturn, 0, 0, 0, 0, 0, 0, []) : xm_I) := rfl
theorem r_X3_firstWished_18 : co_X3_firstWished[18]? = some ((32, .iinc 2 1, 0, 0, 0, 0, 1, 0, []) : xm_I) := rfl
theorem r_X3_firstWished_19 : co_X3_firstWished[19]? = some ((35, .goto (-33), 0, 0, 2, 0, 0, 0, []) : xm_I) := rfl
theorem r_X3_firstWished_20 : co_X3_firstWished[20]? = some ((38, .iconst (-1), 0, 0, 0, 0, (-1), 0, []) : xm_I) := rfl
theorem r_X3_firstWished_21 : co_X3_firstWished[21]? = some ((39, .ireturn, 0, 0, 0, 0, 0, 0, []) : xm_I) := rfl
theorem p_X3_firstWished_0_0 {X : xm_X} {P : List xm_M} {d : Nat} {h : xm_H} {l0 : Nat} {l1 : Nat} {ro : Option Value} {ho : xm_H}  (K : xm_E X P d co_X3_firstWished 2 [some (.ref l0), some (.ref l1), some (.int (0 : Int32))] [] h ro ho) : xm_E X P d co_X3_firstWished 0 [some (.ref l0), some (.ref l1), none] [] h ro ho := by
  refine xm_E_s r_X3_firstWished_0 rfl rfl ?_
  refine xm_E_s (ls1 := [some (.ref l0), some (.ref l1), some (.int (0 : Int32))]) r_X3_firstWished_1 rfl rfl ?_
  exact K
theorem p_X3_firstWished_2_0 {X : xm_X} {P : List xm_M} {d : Nat} {h : xm_H} {l0 : Nat} {l1 : Nat} {l2 : Int32} (q0 : X.1[l0]? = some (.inr 3)) (q1 : h.1 l0 14 ≤ l2) : xm_E X P d co_X3_firstWished 2 [some (.ref l0), some (.ref l1), some (.int l2)] [] h (some (.int (-1 : Int32))) h := by
  refine xm_E_s r_X3_firstWished_2 rfl rfl ?_
  refine xm_E_s r_X3_firstWished_3 rfl rfl ?_
  refine xm_E_s r_X3_firstWished_4 rfl (xm_T_gi rfl q0 rfl (Or.inl rfl)) ?_
  refine xm_E_s r_X3_firstWished_5 rfl rfl ?_
  refine xm_E_t q1 ?_
  refine xm_E_s r_X3_firstWished_20 rfl rfl ?_
  exact xm_E_iret r_X3_firstWished_21 rfl rfl
theorem p_X3_firstWished_2_1 {X : xm_X} {P : List xm_M} {d : Nat} {h : xm_H} {l0 : Nat} {l1 : Nat} {l2 : Int32} (q0 : X.1[l0]? = some (.inr 3)) (q1 : ¬ (h.1 l0 14 ≤ l2)) (q2 : (640 : Int32) ≤ l2) : xm_E X P d co_X3_firstWished 2 [some (.ref l0), some (.ref l1), some (.int l2)] [] h (some (.int (-1 : Int32))) h := by
  refine xm_E_s r_X3_firstWished_2 rfl rfl ?_
  refine xm_E_s r_X3_firstWished_3 rfl rfl ?_
  refine xm_E_s r_X3_firstWished_4 rfl (xm_T_gi rfl q0 rfl (Or.inl rfl)) ?_
  refine xm_E_s r_X3_firstWished_5 rfl rfl ?_
  refine xm_E_f q1 ?_
  refine xm_E_s r_X3_firstWished_6 rfl rfl ?_
  refine xm_E_s r_X3_firstWished_7 rfl rfl ?_
  refine xm_E_s r_X3_firstWished_8 rfl rfl ?_
  refine xm_E_t q2 ?_
  refine xm_E_s r_X3_firstWished_20 rfl rfl ?_
  exact xm_E_iret r_X3_firstWished_21 rfl rfl
theorem p_X3_firstWished_2_2 {X : xm_X} {P : List xm_M} {d : Nat} {h : xm_H} {l0 : Nat} {l1 : Nat} {l2 : Int32} {v0 : Nat} {n1 : Nat} {h2 : xm_H} {r2 : Int32} {ro : Option Value} {ho : xm_H} (q0 : X.1[l0]? = some (.inr 3)) (q1 : ¬ (h.1 l0 14 ≤ l2)) (q2 : ¬ ((640 : Int32) ≤ l2)) (q3 : h.2.2 l0 2 = some v0) (q4 : X.1[v0]? = some (.inl (0, n1))) (q5 : ¬ (l2 < 0 ∨ n1 ≤ l2.toNatClampNeg)) (q6 : xm_V X P d 88 [.ref l1, .int (h.1 v0 l2.toNatClampNeg)] h (some (.int r2)) h2) (q7 : X.1[l1]? = some (.inr 7)) (q8 : r2 = (0 : Int32)) (K : xm_E X P d co_X3_firstWished 2 [some (.ref l0), some (.ref l1), some (.int (l2 + (1 : Int32)))] [] h2 ro ho) : xm_E X P d co_X3_firstWished 2 [some (.ref l0), some (.ref l1), some (.int l2)] [] h ro ho := by
  refine xm_E_s r_X3_firstWished_2 rfl rfl ?_
  refine xm_E_s r_X3_firstWished_3 rfl rfl ?_
  refine xm_E_s r_X3_firstWished_4 rfl (xm_T_gi rfl q0 rfl (Or.inl rfl)) ?_
  refine xm_E_s r_X3_firstWished_5 rfl rfl ?_
  refine xm_E_f q1 ?_
  refine xm_E_s r_X3_firstWished_6 rfl rfl ?_
  refine xm_E_s r_X3_firstWished_7 rfl rfl ?_
  refine xm_E_s r_X3_firstWished_8 rfl rfl ?_
  refine xm_E_f q2 ?_
  refine xm_E_s r_X3_firstWished_9 rfl rfl ?_
  refine xm_E_s r_X3_firstWished_10 rfl rfl ?_
  refine xm_E_s r_X3_firstWished_11 rfl (xm_T_gr rfl q0 rfl rfl q3) ?_
  refine xm_E_s r_X3_firstWished_12 rfl rfl ?_
  refine xm_E_s r_X3_firstWished_13 rfl (xm_T_iald rfl q4 (by decide) q5) ?_
  refine xm_E_cv [.ref l1, .int (h.1 v0 l2.toNatClampNeg)] [] r_X3_firstWished_14 rfl rfl (Nat.le_of_ble_eq_true rfl) (xm_rc q7 (by decide)) rfl q6 ?_
  refine xm_E_s r_X3_firstWished_15 rfl rfl ?_
  refine xm_E_t q8 ?_
  refine xm_E_s (ls1 := [some (.ref l0), some (.ref l1), some (.int (l2 + (1 : Int32)))]) r_X3_firstWished_18 rfl rfl ?_
  refine xm_E_s r_X3_firstWished_19 rfl rfl ?_
  exact K
theorem p_X3_firstWished_2_3 {X : xm_X} {P : List xm_M} {d : Nat} {h : xm_H} {l0 : Nat} {l1 : Nat} {l2 : Int32} {v0 : Nat} {n1 : Nat} {h2 : xm_H} {r2 : Int32} (q0 : X.1[l0]? = some (.inr 3)) (q1 : ¬ (h.1 l0 14 ≤ l2)) (q2 : ¬ ((640 : Int32) ≤ l2)) (q3 : h.2.2 l0 2 = some v0) (q4 : X.1[v0]? = some (.inl (0, n1))) (q5 : ¬ (l2 < 0 ∨ n1 ≤ l2.toNatClampNeg)) (q6 : xm_V X P d 88 [.ref l1, .int (h.1 v0 l2.toNatClampNeg)] h (some (.int r2)) h2) (q7 : X.1[l1]? = some (.inr 7)) (q8 : ¬ (r2 = (0 : Int32))) : xm_E X P d co_X3_firstWished 2 [some (.ref l0), some (.ref l1), some (.int l2)] [] h (some (.int l2)) h2 := by
  refine xm_E_s r_X3_firstWished_2 rfl rfl ?_
  refine xm_E_s r_X3_firstWished_3 rfl rfl ?_
  refine xm_E_s r_X3_firstWished_4 rfl (xm_T_gi rfl q0 rfl (Or.inl rfl)) ?_
  refine xm_E_s r_X3_firstWished_5 rfl rfl ?_
  refine xm_E_f q1 ?_
  refine xm_E_s r_X3_firstWished_6 rfl rfl ?_
  refine xm_E_s r_X3_firstWished_7 rfl rfl ?_
  refine xm_E_s r_X3_firstWished_8 rfl rfl ?_
  refine xm_E_f q2 ?_
  refine xm_E_s r_X3_firstWished_9 rfl rfl ?_
  refine xm_E_s r_X3_firstWished_10 rfl rfl ?_
  refine xm_E_s r_X3_firstWished_11 rfl (xm_T_gr rfl q0 rfl rfl q3) ?_
  refine xm_E_s r_X3_firstWished_12 rfl rfl ?_
  refine xm_E_s r_X3_firstWished_13 rfl (xm_T_iald rfl q4 (by decide) q5) ?_
  refine xm_E_cv [.ref l1, .int (h.1 v0 l2.toNatClampNeg)] [] r_X3_firstWished_14 rfl rfl (Nat.le_of_ble_eq_true rfl) (xm_rc q7 (by decide)) rfl q6 ?_
  refine xm_E_s r_X3_firstWished_15 rfl rfl ?_
  refine xm_E_f q8 ?_
  refine xm_E_s r_X3_firstWished_16 rfl rfl ?_
  exact xm_E_iret r_X3_firstWished_17 rfl rfl
theorem r_X3_depthOf_0 : co_X3_depthOf[0]? = some ((0, .iload_n 1, 0, 0, 0, 0, 0, 0, []) : xm_I) := rfl
theorem r_X3_depthOf_1 : co_X3_depthOf[1]? = some ((1, .ifCond .lt 27, 0, 0, 14, 0, 0, 0, []) : xm_I) := rfl
theorem r_X3_depthOf_2 : co_X3_depthOf[2]? = some ((4, .iload_n 1, 0, 0, 0, 0, 0, 0, []) : xm_I) := rfl
theorem r_X3_depthOf_3 : co_X3_depthOf[3]? = some ((5, .aload_n 0, 0, 0, 0, 0, 0, 0, []) : xm_I) := rfl
theorem r_X3_depthOf_4 : co_X3_depthOf[4]? = some ((6, .getfield 46, 354, 3, 14, 0, 0, 0, []) : xm_I) := rfl
theorem r_X3_depthOf_5 : co_X3_depthOf[5]? = some ((9, .if_icmp .ge 19, 0, 0, 14, 0, 0, 0, []) : xm_I) := rfl
theorem r_X3_depthOf_6 : co_X3_depthOf[6]? = some ((12, .iload_n 1, 0, 0, 0, 0, 0, 0, []) : xm_I) := rfl
theorem r_X3_depthOf_7 : co_X3_depthOf[7]? = some ((13, .sipush 640, 0, 0, 0, 0, 640, 0, []) : xm_I) := rfl
theorem r_X3_depthOf_8 : co_X3_depthOf[8]? = some ((16, .if_icmp .ge 12, 0, 0, 14, 0, 0, 0, []) : xm_I) := rfl
theorem r_X3_depthOf_9 : co_X3_depthOf[9]? = some ((19, .aload_n 0, 0, 0, 0, 0, 0, 0, []) : xm_I) := rfl
theorem r_X3_depthOf_10 : co_X3_depthOf[10]? = some ((20, .getfield 30, 346, 3, 6, 2, 0, 0, []) : xm_I) := rfl
theorem r_X3_depthOf_11 : co_X3_depthOf[11]? = some ((23, .iload_n 1, 0, 0, 0, 0, 0, 0, []) : xm_I) := rfl
theorem r_X3_depthOf_12 : co_X3_depthOf[12]? = some ((24, .iaload, 0, 0, 0, 0, 0, 0, []) : xm_I) := rfl
theorem r_X3_depthOf_13 : co_X3_depthOf[13]? = some ((25, .goto 4, 0, 0, 15, 0, 0, 0, []) : xm_I) := rfl
theorem r_X3_depthOf_14 : co_X3_depthOf[14]? = some ((28, .iconst (-1), 0, 0, 0, 0, (-1), 0, []) : xm_I) := rfl
theorem r_X3_depthOf_15 : co_X3_depthOf[15]? = some ((29, .ireturn, 0, 0, 0, 0, 0, 0, []) : xm_I) := rfl
theorem p_X3_depthOf_0_0 {X : xm_X} {P : List xm_M} {d : Nat} {h : xm_H} {l0 : Nat} {l1 : Int32} (q0 : l1 < (0 : Int32)) : xm_E X P d co_X3_depthOf 0 [some (.ref l0), some (.int l1)] [] h (some (.int (-1 : Int32))) h := by
  refine xm_E_s r_X3_depthOf_0 rfl rfl ?_
  refine xm_E_s r_X3_depthOf_1 rfl rfl ?_
  refine xm_E_t q0 ?_
  refine xm_E_s r_X3_depthOf_14 rfl rfl ?_
  exact xm_E_iret r_X3_depthOf_15 rfl rfl
theorem p_X3_depthOf_0_1 {X : xm_X} {P : List xm_M} {d : Nat} {h : xm_H} {l0 : Nat} {l1 : Int32} (q0 : ¬ (l1 < (0 : Int32))) (q1 : X.1[l0]? = some (.inr 3)) (q2 : h.1 l0 14 ≤ l1) : xm_E X P d co_X3_depthOf 0 [some (.ref l0), some (.int l1)] [] h (some (.int (-1 : Int32))) h := by
  refine xm_E_s r_X3_depthOf_0 rfl rfl ?_
  refine xm_E_s r_X3_depthOf_1 rfl rfl ?_
  refine xm_E_f q0 ?_
  refine xm_E_s r_X3_depthOf_2 rfl rfl ?_
  refine xm_E_s r_X3_depthOf_3 rfl rfl ?_
  refine xm_E_s r_X3_depthOf_4 rfl (xm_T_gi rfl q1 rfl (Or.inl rfl)) ?_
  refine xm_E_s r_X3_depthOf_5 rfl rfl ?_
  refine xm_E_t q2 ?_
  refine xm_E_s r_X3_depthOf_14 rfl rfl ?_
  exact xm_E_iret r_X3_depthOf_15 rfl rfl
theorem p_X3_depthOf_0_2 {X : xm_X} {P : List xm_M} {d : Nat} {h : xm_H} {l0 : Nat} {l1 : Int32} (q0 : ¬ (l1 < (0 : Int32))) (q1 : X.1[l0]? = some (.inr 3)) (q2 : ¬ (h.1 l0 14 ≤ l1)) (q3 : (640 : Int32) ≤ l1) : xm_E X P d co_X3_depthOf 0 [some (.ref l0), some (.int l1)] [] h (some (.int (-1 : Int32))) h := by
  refine xm_E_s r_X3_depthOf_0 rfl rfl ?_
  refine xm_E_s r_X3_depthOf_1 rfl rfl ?_
  refine xm_E_f q0 ?_
  refine xm_E_s r_X3_depthOf_2 rfl rfl ?_
  refine xm_E_s r_X3_depthOf_3 rfl rfl ?_
  refine xm_E_s r_X3_depthOf_4 rfl (xm_T_gi rfl q1 rfl (Or.inl rfl)) ?_
  refine xm_E_s r_X3_depthOf_5 rfl rfl ?_
  refine xm_E_f q2 ?_
  refine xm_E_s r_X3_depthOf_6 rfl rfl ?_
  refine xm_E_s r_X3_depthOf_7 rfl rfl ?_
  refine xm_E_s r_X3_depthOf_8 rfl rfl ?_
  refine xm_E_t q3 ?_
  refine xm_E_s r_X3_depthOf_14 rfl rfl ?_
  exact xm_E_iret r_X3_depthOf_15 rfl rfl
theorem p_X3_depthOf_0_3 {X : xm_X} {P : List xm_M} {d : Nat} {h : xm_H} {l0 : Nat} {l1 : Int32} {v0 : Nat} {n1 : Nat} (q0 : ¬ (l1 < (0 : Int32))) (q1 : X.1[l0]? = some (.inr 3)) (q2 : ¬ (h.1 l0 14 ≤ l1)) (q3 : ¬ ((640 : Int32) ≤ l1)) (q4 : h.2.2 l0 6 = some v0) (q5 : X.1[v0]? = some (.inl (0, n1))) (q6 : ¬ (l1 < 0 ∨ n1 ≤ l1.toNatClampNeg)) : xm_E X P d co_X3_depthOf 0 [some (.ref l0), some (.int l1)] [] h (some (.int (h.1 v0 l1.toNatClampNeg))) h := by
  refine xm_E_s r_X3_depthOf_0 rfl rfl ?_
  refine xm_E_s r_X3_depthOf_1 rfl rfl ?_
  refine xm_E_f q0 ?_
  refine xm_E_s r_X3_depthOf_2 rfl rfl ?_
  refine xm_E_s r_X3_depthOf_3 rfl rfl ?_
  refine xm_E_s r_X3_depthOf_4 rfl (xm_T_gi rfl q1 rfl (Or.inl rfl)) ?_
  refine xm_E_s r_X3_depthOf_5 rfl rfl ?_
  refine xm_E_f q2 ?_
  refine xm_E_s r_X3_depthOf_6 rfl rfl ?_
  refine xm_E_s r_X3_depthOf_7 rfl rfl ?_
  refine xm_E_s r_X3_depthOf_8 rfl rfl ?_
  refine xm_E_f q3 ?_
  refine xm_E_s r_X3_depthOf_9 rfl rfl ?_
  refine xm_E_s r_X3_depthOf_10 rfl (xm_T_gr rfl q1 rfl rfl q4) ?_
  refine xm_E_s r_X3_depthOf_11 rfl rfl ?_
  refine xm_E_s r_X3_depthOf_12 rfl (xm_T_iald rfl q5 (by decide) q6) ?_
  refine xm_E_s r_X3_depthOf_13 rfl rfl ?_
  exact xm_E_iret r_X3_depthOf_15 rfl rfl
theorem r_X3_moveTowards_0 : co_X3_moveTowards[0]? = some ((0, .aload_n 0, 0, 0, 0, 0, 0, 0, []) : xm_I) := rfl
theorem r_X3_moveTowards_1 : co_X3_moveTowards[1]? = some ((1, .iload_n 1, 0, 0, 0, 0, 0, 0, []) : xm_I) := rfl
theorem r_X3_moveTowards_2 : co_X3_moveTowards[2]? = some ((2, .invokevirtual 117, 945, 89, 2, 3, 0, 0, []) : xm_I) := rfl
theorem r_X3_moveTowards_3 : co_X3_moveTowards[3]? = some ((5, .istore_n 3, 0, 0, 0, 0, 0, 0, []) : xm_I) := rfl
theorem r_X3_moveTowards_4 : co_X3_moveTowards[4]? = some ((6, .iload_n 2, 0, 0, 0, 0, 0, 0, []) : xm_I) := rfl
theorem r_X3_moveTowards_5 : co_X3_moveTowards[5]? = some ((7, .ifCond .lt 8, 0, 0, 9, 0, 0, 0, []) : xm_I) := rfl
theorem r_X3_moveTowards_6 : co_X3_moveTowards[6]? = some ((10, .iload_n 2, 0, 0, 0, 0, 0, 0, []) : xm_I) := rfl
theorem r_X3_moveTowards_7 : co_X3_moveTowards[7]? = some ((11, .iload_n 3, 0, 0, 0, 0, 0, 0, []) : xm_I) := rfl
theorem r_X3_moveTowards_8 : co_X3_moveTowards[8]? = some ((12, .if_icmp .lt 5, 0, 0, 11, 0, 0, 0, []) : xm_I) := rfl
theorem r_X3_moveTowards_9 : co_X3_moveTowards[9]? = some ((15, .iconst (-1), 0, 0, 0, 0, (-1), 0, []) : xm_I) := rfl
theorem r_X3_moveTowards_10 : co_X3_moveTowards[10]? = some ((16, .ireturn, 0, 0, 0, 0, 0, 0, []) : xm_I) := rfl
theorem r_X3_moveTowards_11 : co_X3_moveTowards[11]? = some ((17, .iload_n 1, 0, 0, 0, 0, 0, 0, []) : xm_I) := rfl
theorem r_X3_moveTowards_12 : co_X3_moveTowards[12]? = some ((18, .istore 4, 0, 0, 0, 0, 0, 0, []) : xm_I) := rfl
theorem r_X3_moveTowards_13 : co_X3_moveTowards[13]? = some ((20, .iload_n 3, 0, 0, 0, 0, 0, 0, []) : xm_I) := rfl
theorem r_X3_moveTowards_14 : co_X3_moveTowards[14]? = some ((21, .iconst 1, 0, 0, 0, 0, 1, 0, []) : xm_I) := rfl
theorem r_X3_moveTowards_15 : co_X3_moveTowards[15]? = some ((22, .isub, 0, 0, 0, 0, 0, 0, []) : xm_I) := rfl
theorem r_X3_moveTowards_16 : co_X3_moveTowards[16]? = some ((23, .istore 5, 0, 0, 0, 0, 0, 0, []) : xm_I) := rfl
theorem r_X3_moveTowards_17 : co_X3_moveTowards[17]? = some ((25, .iload 5, 0, 0, 0, 0, 0, 0, []) : xm_I) := rfl
theorem r_X3_moveTowards_18 : co_X3_moveTowards[18]? = some ((27, .iload_n 2, 0, 0, 0, 0, 0, 0, []) : xm_I) := rfl
theorem r_X3_moveTowards_19 : co_X3_moveTowards[19]? = some ((28, .if_icmp .le 31, 0, 0, 32, 0, 0, 0, []) : xm_I) := rfl
theorem r_X3_moveTowards_20 : co_X3_moveTowards[20]? = some ((31, .iload 4, 0, 0, 0, 0, 0, 0, []) : xm_I) := rfl
theorem r_X3_moveTowards_21 : co_X3_moveTowards[21]? = some ((33, .ifCond .lt 26, 0, 0, 32, 0, 0, 0, []) : xm_I) := rfl
theorem r_X3_moveTowards_22 : co_X3_moveTowards[22]? = some ((36, .iload 4, 0, 0, 0, 0, 0, 0, []) : xm_I) := rfl
theorem r_X3_moveTowards_23 : co_X3_moveTowards[23]? = some ((38, .sipush 640, 0, 0, 0, 0, 640, 0, []) : xm_I) := rfl
theorem r_X3_moveTowards_24 : co_X3_moveTowards[24]? = some ((41, .if_icmp .ge 18, 0, 0, 32, 0, 0, 0, []) : xm_I) := rfl
theorem r_X3_moveTowards_25 : co_X3_moveTowards[25]? = some ((44, .aload_n 0, 0, 0, 0, 0, 0, 0, []) : xm_I) := rfl
theorem r_X3_moveTowards_26 : co_X3_moveTowards[26]? = some ((45, .getfield 24, 344, 3, 4, 2, 0, 0, []) : xm_I) := rfl
theorem r_X3_moveTowards_27 : co_X3_moveTowards[27]? = some ((48, .iload 4, 0, 0, 0, 0, 0, 0, []) : xm_I) := rfl
theorem r_X3_moveTowards_28 : co_X3_moveTowards[28]? = some ((50, .iaload, 0, 0, 0, 0, 0, 0, []) : xm_I) := rfl
theorem r_X3_moveTowards_29 : co_X3_moveTowards[29]? = some ((51, .istore 4, 0, 0, 0, 0, 0, 0, []) : xm_I) := rfl
theorem r_X3_moveTowards_30 : co_X3_moveTowards[30]? = some ((53, .iinc 5 (-1), 0, 0, 0, 0, (-1), 0, []) : xm_I) := rfl
theorem r_X3_moveTowards_31 : co_X3_moveTowards[31]? = some ((56, .goto (-31), 0, 0, 17, 0, 0, 0, []) : xm_I) := rfl
theorem r_X3_moveTowards_32 : co_X3_moveTowards[32]? = some ((59, .iload 4, 0, 0, 0, 0, 0, 0, []) : xm_I) := rfl
theorem r_X3_moveTowards_33 : co_X3_moveTowards[33]? = some ((61, .ifCond .lt 21, 0, 0, 42, 0, 0, 0, []) : xm_I) := rfl
theorem r_X3_moveTowards_34 : co_X3_moveTowards[34]? = some ((64, .iload 4, 0, 0, 0, 0, 0, 0, []) : xm_I) := rfl
theorem r_X3_moveTowards_35 : co_X3_moveTowards[35]? = some ((66, .sipush 640, 0, 0, 0, 0, 640, 0, []) : xm_I) := rfl
theorem r_X3_moveTowards_36 : co_X3_moveTowards[36]? = some ((69, .if_icmp .ge 13, 0, 0, 42, 0, 0, 0, []) : xm_I) := rfl
theorem r_X3_moveTowards_37 : co_X3_moveTowards[37]? = some ((72, .aload_n 0, 0, 0, 0, 0, 0, 0, []) : xm_I) := rfl
theorem r_X3_moveTowards_38 : co_X3_moveTowards[38]? = some ((73, .getfield 27, 345, 3, 5, 2, 0, 0, []) : xm_I) := rfl
theorem r_X3_moveTowards_39 : co_X3_moveTowards[39]? = some ((76, .iload 4, 0, 0, 0, 0, 0, 0, []) : xm_I) := rfl
theorem r_X3_moveTowards_40 : co_X3_moveTowards[40]? = some ((78, .iaload, 0, 0, 0, 0, 0, 0, []) : xm_I) := rfl
theorem r_X3_moveTowards_41 : co_X3_moveTowards[41]? = some ((79, .goto 4, 0, 0, 43, 0, 0, 0, []) : xm_I) := rfl
theorem r_X3_moveTowards_42 : co_X3_moveTowards[42]? = some ((82, .iconst (-1), 0, 0, 0, 0, (-1), 0, []) : xm_I) := rfl
theorem r_X3_moveTowards_43 : co_X3_moveTowards[43]? = some ((83, .ireturn, 0, 0, 0, 0, 0, 0, []) : xm_I) := rfl
theorem p_X3_moveTowards_0_0 {X : xm_X} {P : List xm_M} {d : Nat} {h : xm_H} {l0 : Nat} {l1 : Int32} {l2 : Int32} {h0 : xm_H} {r0 : Int32} (q0 : xm_V X P d 89 [.ref l0, .int l1] h (some (.int r0)) h0) (q1 : X.1[l0]? = some (.inr 3)) (q2 : l2 < (0 : Int32)) : xm_E X P d co_X3_moveTowards 0 [some (.ref l0), some (.int l1), some (.int l2), none, none, none] [] h (some (.int (-1 : Int32))) h0 := by
  refine xm_E_s r_X3_moveTowards_0 rfl rfl ?_
  refine xm_E_s r_X3_moveTowards_1 rfl rfl ?_
  refine xm_E_cv [.ref l0, .int l1] [] r_X3_moveTowards_2 rfl rfl (Nat.le_of_ble_eq_true rfl) (xm_rc q1 (by decide)) rfl q0 ?_
  refine xm_E_s (ls1 := [some (.ref l0), some (.int l1), some (.int l2), some (.int r0), none, none]) r_X3_moveTowards_3 rfl rfl ?_
  refine xm_E_s r_X3_moveTowards_4 rfl rfl ?_
  refine xm_E_s r_X3_moveTowards_5 rfl rfl ?_
  refine xm_E_t q2 ?_
  refine xm_E_s r_X3_moveTowards_9 rfl rfl ?_
  exact xm_E_iret r_X3_moveTowards_10 rfl rfl
theorem p_X3_moveTowards_0_1 {X : xm_X} {P : List xm_M} {d : Nat} {h : xm_H} {l0 : Nat} {l1 : Int32} {l2 : Int32} {h0 : xm_H} {r0 : Int32} {ro : Option Value} {ho : xm_H} (q0 : xm_V X P d 89 [.ref l0, .int l1] h (some (.int r0)) h0) (q1 : X.1[l0]? = some (.inr 3)) (q2 : ¬ (l2 < (0 : Int32))) (q3 : l2 < r0) (K : xm_E X P d co_X3_moveTowards 17 [some (.ref l0), some (.int l1), some (.int l2), some (.int r0), some (.int l1), some (.int (r0 - (1 : Int32)))] [] h0 ro ho) : xm_E X P d co_X3_moveTowards 0 [some (.ref l0), some (.int l1), some (.int l2), none, none, none] [] h ro ho := by
  refine xm_E_s r_X3_moveTowards_0 rfl rfl ?_
  refine xm_E_s r_X3_moveTowards_1 rfl rfl ?_
  refine xm_E_cv [.ref l0, .int l1] [] r_X3_moveTowards_2 rfl rfl (Nat.le_of_ble_eq_true rfl) (xm_rc q1 (by decide)) rfl q0 ?_
  refine xm_E_s (ls1 := [some (.ref l0), some (.int l1), some (.int l2), some (.int r0), none, none]) r_X3_moveTowards_3 rfl rfl ?_
  refine xm_E_s r_X3_moveTowards_4 rfl rfl ?_
  refine xm_E_s r_X3_moveTowards_5 rfl rfl ?_
  refine xm_E_f q2 ?_
  refine xm_E_s r_X3_moveTowards_6 rfl rfl ?_
  refine xm_E_s r_X3_moveTowards_7 rfl rfl ?_
  refine xm_E_s r_X3_moveTowards_8 rfl rfl ?_
  refine xm_E_t q3 ?_
  refine xm_E_s r_X3_moveTowards_11 rfl rfl ?_
  refine xm_E_s (ls1 := [some (.ref l0), some (.int l1), some (.int l2), some (.int r0), some (.int l1), none]) r_X3_moveTowards_12 rfl rfl ?_
  refine xm_E_s r_X3_moveTowards_13 rfl rfl ?_
  refine xm_E_s r_X3_moveTowards_14 rfl rfl ?_
  refine xm_E_s r_X3_moveTowards_15 rfl rfl ?_
  refine xm_E_s (ls1 := [some (.ref l0), some (.int l1), some (.int l2), some (.int r0), some (.int l1), some (.int (r0 - (1 : Int32)))]) r_X3_moveTowards_16 rfl rfl ?_
  exact K
theorem p_X3_moveTowards_0_2 {X : xm_X} {P : List xm_M} {d : Nat} {h : xm_H} {l0 : Nat} {l1 : Int32} {l2 : Int32} {h0 : xm_H} {r0 : Int32} (q0 : xm_V X P d 89 [.ref l0, .int l1] h (some (.int r0)) h0) (q1 : X.1[l0]? = some (.inr 3)) (q2 : ¬ (l2 < (0 : Int32))) (q3 : ¬ (l2 < r0)) : xm_E X P d co_X3_moveTowards 0 [some (.ref l0), some (.int l1), some (.int l2), none, none, none] [] h (some (.int (-1 : Int32))) h0 := by
  refine xm_E_s r_X3_moveTowards_0 rfl rfl ?_
  refine xm_E_s r_X3_moveTowards_1 rfl rfl ?_
  refine xm_E_cv [.ref l0, .int l1] [] r_X3_moveTowards_2 rfl rfl (Nat.le_of_ble_eq_true rfl) (xm_rc q1 (by decide)) rfl q0 ?_
  refine xm_E_s (ls1 := [some (.ref l0), some (.int l1), some (.int l2), some (.int r0), none, none]) r_X3_moveTowards_3 rfl rfl ?_
  refine xm_E_s r_X3_moveTowards_4 rfl rfl ?_
  refine xm_E_s r_X3_moveTowards_5 rfl rfl ?_
  refine xm_E_f q2 ?_
  refine xm_E_s r_X3_moveTowards_6 rfl rfl ?_
  refine xm_E_s r_X3_moveTowards_7 rfl rfl ?_
  refine xm_E_s r_X3_moveTowards_8 rfl rfl ?_
  refine xm_E_f q3 ?_
  refine xm_E_s r_X3_moveTowards_9 rfl rfl ?_
  exact xm_E_iret r_X3_moveTowards_10 rfl rfl
theorem p_X3_moveTowards_17_0 {X : xm_X} {P : List xm_M} {d : Nat} {h : xm_H} {l0 : Nat} {l1 : Int32} {l2 : Int32} {l3 : Int32} {l4 : Int32} {l5 : Int32} (q0 : l5 ≤ l2) (q1 : l4 < (0 : Int32)) : xm_E X P d co_X3_moveTowards 17 [some (.ref l0), some (.int l1), some (.int l2), some (.int l3), some (.int l4), some (.int l5)] [] h (some (.int (-1 : Int32))) h := by
  refine xm_E_s r_X3_moveTowards_17 rfl rfl ?_
  refine xm_E_s r_X3_moveTowards_18 rfl rfl ?_
  refine xm_E_s r_X3_moveTowards_19 rfl rfl ?_
  refine xm_E_t q0 ?_
  refine xm_E_s r_X3_moveTowards_32 rfl rfl ?_
  refine xm_E_s r_X3_moveTowards_33 rfl rfl ?_
  refine xm_E_t q1 ?_
  refine xm_E_s r_X3_moveTowards_42 rfl rfl ?_
  exact xm_E_iret r_X3_moveTowards_43 rfl rfl
theorem p_X3_moveTowards_17_1 {X : xm_X} {P : List xm_M} {d : Nat} {h : xm_H} {l0 : Nat} {l1 : Int32} {l2 : Int32} {l3 : Int32} {l4 : Int32} {l5 : Int32} (q0 : l5 ≤ l2) (q1 : ¬ (l4 < (0 : Int32))) (q2 : (640 : Int32) ≤ l4) : xm_E X P d co_X3_moveTowards 17 [some (.ref l0), some (.int l1), some (.int l2), some (.int l3), some (.int l4), some (.int l5)] [] h (some (.int (-1 : Int32))) h := by
  refine xm_E_s r_X3_moveTowards_17 rfl rfl ?_
  refine xm_E_s r_X3_moveTowards_18 rfl rfl ?_
  refine xm_E_s r_X3_moveTowards_19 rfl rfl ?_
  refine xm_E_t q0 ?_
  refine xm_E_s r_X3_moveTowards_32 rfl rfl ?_
  refine xm_E_s r_X3_moveTowards_33 rfl rfl ?_
  refine xm_E_f q1 ?_
  refine xm_E_s r_X3_moveTowards_34 rfl rfl ?_
  refine xm_E_s r_X3_moveTowards_35 rfl rfl ?_
  refine xm_E_s r_X3_moveTowards_36 rfl rfl ?_
  refine xm_E_t q2 ?_
  refine xm_E_s r_X3_moveTowards_42 rfl rfl ?_
  exact xm_E_iret r_X3_moveTowards_43 rfl rfl
theorem p_X3_moveTowards_17_2 {X : xm_X} {P : List xm_M} {d : Nat} {h : xm_H} {l0 : Nat} {l1 : Int32} {l2 : Int32} {l3 : Int32} {l4 : Int32} {l5 : Int32} {v0 : Nat} {n1 : Nat} (q0 : l5 ≤ l2) (q1 : ¬ (l4 < (0 : Int32))) (q2 : ¬ ((640 : Int32) ≤ l4)) (q3 : X.1[l0]? = some (.inr 3)) (q4 : h.2.2 l0 5 = some v0) (q5 : X.1[v0]? = some (.inl (0, n1))) (q6 : ¬ (l4 < 0 ∨ n1 ≤ l4.toNatClampNeg)) : xm_E X P d co_X3_moveTowards 17 [some (.ref l0), some (.int l1), some (.int l2), some (.int l3), some (.int l4), some (.int l5)] [] h (some (.int (h.1 v0 l4.toNatClampNeg))) h := by
  refine xm_E_s r_X3_moveTowards_17 rfl rfl ?_
  refine xm_E_s r_X3_moveTowards_18 rfl rfl ?_
  refine xm_E_s r_X3_moveTowards_19 rfl rfl ?_
  refine xm_E_t q0 ?_
  refine xm_E_s r_X3_moveTowards_32 rfl rfl ?_
  refine xm_E_s r_X3_moveTowards_33 rfl rfl ?_
  refine xm_E_f q1 ?_
  refine xm_E_s r_X3_moveTowards_34 rfl rfl ?_
  refine xm_E_s r_X3_moveTowards_35 rfl rfl ?_
  refine xm_E_s r_X3_moveTowards_36 rfl rfl ?_
  refine xm_E_f q2 ?_
  refine xm_E_s r_X3_moveTowards_37 rfl rfl ?_
  refine xm_E_s r_X3_moveTowards_38 rfl (xm_T_gr rfl q3 rfl rfl q4) ?_
  refine xm_E_s r_X3_moveTowards_39 rfl rfl ?_
  refine xm_E_s r_X3_moveTowards_40 rfl (xm_T_iald rfl q5 (by decide) q6) ?_
  refine xm_E_s r_X3_moveTowards_41 rfl rfl ?_
  exact xm_E_iret r_X3_moveTowards_43 rfl rfl
theorem p_X3_moveTowards_17_3 {X : xm_X} {P : List xm_M} {d : Nat} {h : xm_H} {l0 : Nat} {l1 : Int32} {l2 : Int32} {l3 : Int32} {l4 : Int32} {l5 : Int32} (q0 : ¬ (l5 ≤ l2)) (q1 : l4 < (0 : Int32)) : xm_E X P d co_X3_moveTowards 17 [some (.ref l0), some (.int l1), some (.int l2), some (.int l3), some (.int l4), some (.int l5)] [] h (some (.int (-1 : Int32))) h := by
  refine xm_E_s r_X3_moveTowards_17 rfl rfl ?_
  refine xm_E_s r_X3_moveTowards_18 rfl rfl ?_
  refine xm_E_s r_X3_moveTowards_19 rfl rfl ?_
  refine xm_E_f q0 ?_
  refine xm_E_s r_X3_moveTowards_20 rfl rfl ?_
  refine xm_E_s r_X3_moveTowards_21 rfl rfl ?_
  refine xm_E_t q1 ?_
  refine xm_E_s r_X3_moveTowards_32 rfl rfl ?_
  refine xm_E_s r_X3_moveTowards_33 rfl rfl ?_
  refine xm_E_t q1 ?_
  refine xm_E_s r_X3_moveTowards_42 rfl rfl ?_
  exact xm_E_iret r_X3_moveTowards_43 rfl rfl
theorem p_X3_moveTowards_17_4 {X : xm_X} {P : List xm_M} {d : Nat} {h : xm_H} {l0 : Nat} {l1 : Int32} {l2 : Int32} {l3 : Int32} {l4 : Int32} {l5 : Int32} (q0 : ¬ (l5 ≤ l2)) (q1 : ¬ (l4 < (0 : Int32))) (q2 : (640 : Int32) ≤ l4) : xm_E X P d co_X3_moveTowards 17 [some (.ref l0), some (.int l1), some (.int l2), some (.int l3), some (.int l4), some (.int l5)] [] h (some (.int (-1 : Int32))) h := by
  refine xm_E_s r_X3_moveTowards_17 rfl rfl ?_
  refine xm_E_s r_X3_moveTowards_18 rfl rfl ?_
  refine xm_E_s r_X3_moveTowards_19 rfl rfl ?_
  refine xm_E_f q0 ?_
  refine xm_E_s r_X3_moveTowards_20 rfl rfl ?_
  refine xm_E_s r_X3_moveTowards_21 rfl rfl ?_
  refine xm_E_f q1 ?_
  refine xm_E_s r_X3_moveTowards_22 rfl rfl ?_
  refine xm_E_s r_X3_moveTowards_23 rfl rfl ?_
  refine xm_E_s r_X3_moveTowards_24 rfl rfl ?_
  refine xm_E_t q2 ?_
  refine xm_E_s r_X3_moveTowards_32 rfl rfl ?_
  refine xm_E_s r_X3_moveTowards_33 rfl rfl ?_
  refine xm_E_f q1 ?_
  refine xm_E_s r_X3_moveTowards_34 rfl rfl ?_
  refine xm_E_s r_X3_moveTowards_35 rfl rfl ?_
  refine xm_E_s r_X3_moveTowards_36 rfl rfl ?_
  refine xm_E_t q2 ?_
  refine xm_E_s r_X3_moveTowards_42 rfl rfl ?_
  exact xm_E_iret r_X3_moveTowards_43 rfl rfl
theorem p_X3_moveTowards_17_5 {X : xm_X} {P : List xm_M} {d : Nat} {h : xm_H} {l0 : Nat} {l1 : Int32} {l2 : Int32} {l3 : Int32} {l4 : Int32} {l5 : Int32} {v0 : Nat} {n1 : Nat} {ro : Option Value} {ho : xm_H} (q0 : ¬ (l5 ≤ l2)) (q1 : ¬ (l4 < (0 : Int32))) (q2 : ¬ ((640 : Int32) ≤ l4)) (q3 : X.1[l0]? = some (.inr 3)) (q4 : h.2.2 l0 4 = some v0) (q5 : X.1[v0]? = some (.inl (0, n1))) (q6 : ¬ (l4 < 0 ∨ n1 ≤ l4.toNatClampNeg)) (K : xm_E X P d co_X3_moveTowards 17 [some (.ref l0), some (.int l1), some (.int l2), some (.int l3), some (.int (h.1 v0 l4.toNatClampNeg)), some (.int (l5 + (-1 : Int32)))] [] h ro ho) : xm_E X P d co_X3_moveTowards 17 [some (.ref l0), some (.int l1), some (.int l2), some (.int l3), some (.int l4), some (.int l5)] [] h ro ho := by
  refine xm_E_s r_X3_moveTowards_17 rfl rfl ?_
  refine xm_E_s r_X3_moveTowards_18 rfl rfl ?_
  refine xm_E_s r_X3_moveTowards_19 rfl rfl ?_
  refine xm_E_f q0 ?_
  refine xm_E_s r_X3_moveTowards_20 rfl rfl ?_
  refine xm_E_s r_X3_moveTowards_21 rfl rfl ?_
  refine xm_E_f q1 ?_
  refine xm_E_s r_X3_moveTowards_22 rfl rfl ?_
  refine xm_E_s r_X3_moveTowards_23 rfl rfl ?_
  refine xm_E_s r_X3_moveTowards_24 rfl rfl ?_
  refine xm_E_f q2 ?_
  refine xm_E_s r_X3_moveTowards_25 rfl rfl ?_
  refine xm_E_s r_X3_moveTowards_26 rfl (xm_T_gr rfl q3 rfl rfl q4) ?_
  refine xm_E_s r_X3_moveTowards_27 rfl rfl ?_
  refine xm_E_s r_X3_moveTowards_28 rfl (xm_T_iald rfl q5 (by decide) q6) ?_
  refine xm_E_s (ls1 := [some (.ref l0), some (.int l1), some (.int l2), some (.int l3), some (.int (h.1 v0 l4.toNatClampNeg)), some (.int l5)]) r_X3_moveTowards_29 rfl rfl ?_
  refine xm_E_s (ls1 := [some (.ref l0), some (.int l1), some (.int l2), some (.int l3), some (.int (h.1 v0 l4.toNatClampNeg)), some (.int (l5 + (-1 : Int32)))]) r_X3_moveTowards_30 rfl rfl ?_
  refine xm_E_s r_X3_moveTowards_31 rfl rfl ?_
  exact K
theorem r_X3_leastSeconds_0 : co_X3_leastSeconds[0]? = some ((0, .iconst 0, 0, 0, 0, 0, 0, 0, []) : xm_I) := rfl
theorem r_X3_leastSeconds_1 : co_X3_leastSeconds[1]? = some ((1, .istore_n 2, 0, 0, 0, 0, 0, 0, []) : xm_I) := rfl
theorem r_X3_leastSeconds_2 : co_X3_leastSeconds[2]? = some ((2, .iload_n 2, 0, 0, 0, 0, 0, 0, []) : xm_I) := rfl
theorem r_X3_leastSeconds_3 : co_X3_leastSeconds[3]? = some ((3, .aload_n 0, 0, 0, 0, 0, 0, 0, []) : xm_I) := rfl
theorem r_X3_leastSeconds_4 : co_X3_leastSeconds[4]? = some ((4, .getfield 46, 354, 3, 14, 0, 0, 0, []) : xm_I) := rfl
theorem r_X3_leastSeconds_5 : co_X3_leastSeconds[5]? = some ((7, .if_icmp .ge 44, 0, 0, 26, 0, 0, 0, []) : xm_I) := rfl
theorem r_X3_leastSeconds_6 : co_X3_leastSeconds[6]? = some ((10, .iload_n 2, 0, 0, 0, 0, 0, 0, []) : xm_I) := rfl
theorem r_X3_leastSeconds_7 : co_X3_leastSeconds[7]? = some ((11, .sipush 640, 0, 0, 0, 0, 640, 0, []) : xm_I) := rfl
theorem r_X3_leastSeconds_8 : co_X3_leastSeconds[8]? = some ((14, .if_icmp .ge 37, 0, 0, 26, 0, 0, 0, []) : xm_I) := rfl
theorem r_X3_leastSeconds_9 : co_X3_leastSeconds[9]? = some ((17, .aload_n 0, 0, 0, 0, 0, 0, 0, []) : xm_I) := rfl
theorem r_X3_leastSeconds_10 : co_X3_leastSeconds[10]? = some ((18, .getfield 33, 347, 3, 7, 2, 0, 0, []) : xm_I) := rfl
theorem r_X3_leastSeconds_11 : co_X3_leastSeconds[11]? = some ((21, .iload_n 2, 0, 0, 0, 0, 0, 0, []) : xm_I) := rfl
theorem r_X3_leastSeconds_12 : co_X3_leastSeconds[12]? = some ((22, .aload_n 1, 0, 0, 0, 0, 0, 0, []) : xm_I) := rfl
theorem r_X3_leastSeconds_13 : co_X3_leastSeconds[13]? = some ((23, .getfield 120, 248, 0, 12, 2, 0, 0, []) : xm_I) := rfl
theorem r_X3_leastSeconds_14 : co_X3_leastSeconds[14]? = some ((26, .aload_n 0, 0, 0, 0, 0, 0, 0, []) : xm_I) := rfl
theorem r_X3_leastSeconds_15 : co_X3_leastSeconds[15]? = some ((27, .getfield 18, 342, 3, 2, 2, 0, 0, []) : xm_I) := rfl
theorem r_X3_leastSeconds_16 : co_X3_leastSeconds[16]? = some ((30, .iload_n 2, 0, 0, 0, 0, 0, 0, []) : xm_I) := rfl
theorem r_X3_leastSeconds_17 : co_X3_leastSeconds[17]? = some ((31, .iaload, 0, 0, 0, 0, 0, 0, []) : xm_I) := rfl
theorem r_X3_leastSeconds_18 : co_X3_leastSeconds[18]? = some ((32, .invokevirtual 111, 920, 88, 2, 7, 0, 0, []) : xm_I) := rfl
theorem r_X3_leastSeconds_19 : co_X3_leastSeconds[19]? = some ((35, .ifCond .eq 7, 0, 0, 22, 0, 0, 0, []) : xm_I) := rfl
theorem r_X3_leastSeconds_20 : co_X3_leastSeconds[20]? = some ((38, .iconst 0, 0, 0, 0, 0, 0, 0, []) : xm_I) := rfl
theorem r_X3_leastSeconds_21 : co_X3_leastSeconds[21]? = some ((39, .goto 5, 0, 0, 23, 0, 0, 0, []) : xm_I) := rfl
theorem r_X3_leastSeconds_22 : co_X3_leastSeconds[22]? = some ((42, .ldc 126, 954, 0, 0, 0, 1000000, 0, []) : xm_I) := rfl
theorem r_X3_leastSeconds_23 : co_X3_leastSeconds[23]? = some ((44, .iastore, 0, 0, 0, 0, 0, 0, []) : xm_I) := rfl
theorem r_X3_leastSeconds_24 : co_X3_leastSeconds[24]? = some ((45, .iinc 2 1, 0, 0, 0, 0, 1, 0, []) : xm_I) := rfl
theorem r_X3_leastSeconds_25 : co_X3_leastSeconds[25]? = some ((48, .goto (-46), 0, 0, 2, 0, 0, 0, []) : xm_I) := rfl
theorem r_X3_leastSeconds_26 : co_X3_leastSeconds[26]? = some ((51, .iconst 1, 0, 0, 0, 0, 1, 0, []) : xm_I) := rfl
theorem r_X3_leastSeconds_27 : co_X3_leastSeconds[27]? = some ((52, .istore_n 2, 0, 0, 0, 0, 0, 0, []) : xm_I) := rfl
theorem r_X3_leastSeconds_28 : co_X3_leastSeconds[28]? = some ((53, .iconst 0, 0, 0, 0, 0, 0, 0, []) : xm_I) := rfl
theorem r_X3_leastSeconds_29 : co_X3_leastSeconds[29]? = some ((54, .istore_n 3, 0, 0, 0, 0, 0, 0, []) : xm_I) := rfl
theorem r_X3_leastSeconds_30 : co_X3_leastSeconds[30]? = some ((55, .iload_n 3, 0, 0, 0, 0, 0, 0, []) : xm_I) := rfl
theorem r_X3_leastSeconds_31 : co_X3_leastSeconds[31]? = some ((56, .sipush 640, 0, 0, 0, 0, 640, 0, []) : xm_I) := rfl
theorem r_X3_leastSeconds_32 : co_X3_leastSeconds[32]? = some ((59, .if_icmp .ge 72, 0, 0, 68, 0, 0, 0, []) : xm_I) := rfl
theorem r_X3_leastSeconds_33 : co_X3_leastSeconds[33]? = some ((62, .iload_n 2, 0, 0, 0, 0, 0, 0, []) : xm_I) := rfl
theorem r_X3_leastSeconds_34 : co_X3_leastSeconds[34]? = some ((63, .ifCond .eq 68, 0, 0, 68, 0, 0, 0, []) : xm_I) := rfl
theorem r_X3_leastSeconds_35 : co_X3_leastSeconds[35]? = some ((66, .iconst 0, 0, 0, 0, 0, 0, 0, []) : xm_I) := rfl
theorem r_X3_leastSeconds_36 : co_X3_leastSeconds[36]? = some ((67, .istore_n 2, 0, 0, 0, 0, 0, 0, []) : xm_I) := rfl
theorem r_X3_leastSeconds_37 : co_X3_leastSeconds[37]? = some ((68, .aload_n 0, 0, 0, 0, 0, 0, 0, []) : xm_I) := rfl
theorem r_X3_leastSeconds_38 : co_X3_leastSeconds[38]? = some ((69, .getfield 46, 354, 3, 14, 0, 0, 0, []) : xm_I) := rfl
theorem r_X3_leastSeconds_39 : co_X3_leastSeconds[39]? = some ((72, .sipush 640, 0, 0, 0, 0, 640, 0, []) : xm_I) := rfl
theorem r_X3_leastSeconds_40 : co_X3_leastSeconds[40]? = some ((75, .invokestatic 127, 955, 0, 0, 3, 0, 0, []) : xm_I) := rfl
theorem r_X3_leastSeconds_41 : co_X3_leastSeconds[41]? = some ((78, .iconst 1, 0, 0, 0, 0, 1, 0, []) : xm_I) := rfl
theorem r_X3_leastSeconds_42 : co_X3_leastSeconds[42]? = some ((79, .isub, 0, 0, 0, 0, 0, 0, []) : xm_I) := rfl
theorem r_X3_leastSeconds_43 : co_X3_leastSeconds[43]? = some ((80, .istore 4, 0, 0, 0, 0, 0, 0, []) : xm_I) := rfl
theorem r_X3_leastSeconds_44 : co_X3_leastSeconds[44]? = some ((82, .iload 4, 0, 0, 0, 0, 0, 0, []) : xm_I) := rfl
theorem r_X3_leastSeconds_45 : co_X3_leastSeconds[45]? = some ((84, .ifCond .lt 41, 0, 0, 66, 0, 0, 0, []) : xm_I) := rfl
theorem r_X3_leastSeconds_46 : co_X3_leastSeconds[46]? = some ((87, .aload_n 0, 0, 0, 0, 0, 0, 0, []) : xm_I) := rfl
theorem r_X3_leastSeconds_47 : co_X3_leastSeconds[47]? = some ((88, .aload_n 1, 0, 0, 0, 0, 0, 0, []) : xm_I) := rfl
theorem r_X3_leastSeconds_48 : co_X3_leastSeconds[48]? = some ((89, .iload 4, 0, 0, 0, 0, 0, 0, []) : xm_I) := rfl
theorem r_X3_leastSeconds_49 : co_X3_leastSeconds[49]? = some ((91, .invokevirtual 132, 956, 95, 3, 3, 0, 0, []) : xm_I) := rfl
theorem r_X3_leastSeconds_50 : co_X3_leastSeconds[50]? = some ((94, .istore 5, 0, 0, 0, 0, 0, 0, []) : xm_I) := rfl
theorem r_X3_leastSeconds_51 : co_X3_leastSeconds[51]? = some ((96, .iload 5, 0, 0, 0, 0, 0, 0, []) : xm_I) := rfl
theorem r_X3_leastSeconds_52 : co_X3_leastSeconds[52]? = some ((98, .aload_n 0, 0, 0, 0, 0, 0, 0, []) : xm_I) := rfl
theorem r_X3_leastSeconds_53 : co_X3_leastSeconds[53]? = some ((99, .getfield 33, 347, 3, 7, 2, 0, 0, []) : xm_I) := rfl
theorem r_X3_leastSeconds_54 : co_X3_leastSeconds[54]? = some ((102, .iload 4, 0, 0, 0, 0, 0, 0, []) : xm_I) := rfl
theorem r_X3_leastSeconds_55 : co_X3_leastSeconds[55]? = some ((104, .iaload, 0, 0, 0, 0, 0, 0, []) : xm_I) := rfl
theorem r_X3_leastSeconds_56 : co_X3_leastSeconds[56]? = some ((105, .if_icmp .ge 14, 0, 0, 64, 0, 0, 0, []) : xm_I) := rfl
theorem r_X3_leastSeconds_57 : co_X3_leastSeconds[57]? = some ((108, .aload_n 0, 0, 0, 0, 0, 0, 0, []) : xm_I) := rfl
theorem r_X3_leastSeconds_58 : co_X3_leastSeconds[58]? = some ((109, .getfield 33, 347, 3, 7, 2, 0, 0, []) : xm_I) := rfl
theorem r_X3_leastSeconds_59 : co_X3_leastSeconds[59]? = some ((112, .iload 4, 0, 0, 0, 0, 0, 0, []) : xm_I) := rfl
theorem r_X3_leastSeconds_60 : co_X3_leastSeconds[60]? = some ((114, .iload 5, 0, 0, 0, 0, 0, 0, []) : xm_I) := rfl
theorem r_X3_leastSeconds_61 : co_X3_leastSeconds[61]? = some ((116, .iastore, 0, 0, 0, 0, 0, 0, []) : xm_I) := rfl
theorem r_X3_leastSeconds_62 : co_X3_leastSeconds[62]? = some ((117, .iconst 1, 0, 0, 0, 0, 1, 0, []) : xm_I) := rfl
theorem r_X3_leastSeconds_63 : co_X3_leastSeconds[63]? = some ((118, .istore_n 2, 0, 0, 0, 0, 0, 0, []) : xm_I) := rfl
theorem r_X3_leastSeconds_64 : co_X3_leastSeconds[64]? = some ((119, .iinc 4 (-1), 0, 0, 0, 0, (-1), 0, []) : xm_I) := rfl
theorem r_X3_leastSeconds_65 : co_X3_leastSeconds[65]? = some ((122, .goto (-40), 0, 0, 44, 0, 0, 0, []) : xm_I) := rfl
theorem r_X3_leastSeconds_66 : co_X3_leastSeconds[66]? = some ((125, .iinc 3 1, 0, 0, 0, 0, 1, 0, []) : xm_I) := rfl
theorem r_X3_leastSeconds_67 : co_X3_leastSeconds[67]? = some ((128, .goto (-73), 0, 0, 30, 0, 0, 0, []) : xm_I) := rfl
theorem r_X3_leastSeconds_68 : co_X3_leastSeconds[68]? = some ((131, .aload_n 0, 0, 0, 0, 0, 0, 0, []) : xm_I) := rfl
theorem r_X3_leastSeconds_69 : co_X3_leastSeconds[69]? = some ((132, .getfield 46, 354, 3, 14, 0, 0, 0, []) : xm_I) := rfl
theorem r_X3_leastSeconds_70 : co_X3_leastSeconds[70]? = some ((135, .ifCond .eq 14, 0, 0, 77, 0, 0, 0, []) : xm_I) := rfl
theorem r_X3_leastSeconds_71 : co_X3_leastSeconds[71]? = some ((138, .aload_n 0, 0, 0, 0, 0, 0, 0, []) : xm_I) := rfl
theorem r_X3_leastSeconds_72 : co_X3_leastSeconds[72]? = some ((139, .getfield 33, 347, 3, 7, 2, 0, 0, []) : xm_I) := rfl
theorem r_X3_leastSeconds_73 : co_X3_leastSeconds[73]? = some ((142, .iconst 0, 0, 0, 0, 0, 0, 0, []) : xm_I) := rfl
theorem r_X3_leastSeconds_74 : co_X3_leastSeconds[74]? = some ((143, .iaload, 0, 0, 0, 0, 0, 0, []) : xm_I) := rfl
theorem r_X3_leastSeconds_75 : co_X3_leastSeconds[75]? = some ((144, .ldc 126, 954, 0, 0, 0, 1000000, 0, []) : xm_I) := rfl
theorem r_X3_leastSeconds_76 : co_X3_leastSeconds[76]? = some ((146, .if_icmp .lt 7, 0, 0, 79, 0, 0, 0, []) : xm_I) := rfl
theorem r_X3_leastSeconds_77 : co_X3_leastSeconds[77]? = some ((149, .iconst (-1), 0, 0, 0, 0, (-1), 0, []) : xm_I) := rfl
theorem r_X3_leastSeconds_78 : co_X3_leastSeconds[78]? = some ((150, .goto 9, 0, 0, 83, 0, 0, 0, []) : xm_I) := rfl
theorem r_X3_leastSeconds_79 : co_X3_leastSeconds[79]? = some ((153, .aload_n 0, 0, 0, 0, 0, 0, 0, []) : xm_I) := rfl
theorem r_X3_leastSeconds_80 : co_X3_leastSeconds[80]? = some ((154, .getfield 33, 347, 3, 7, 2, 0, 0, []) : xm_I) := rfl
theorem r_X3_leastSeconds_81 : co_X3_leastSeconds[81]? = some ((157, .iconst 0, 0, 0, 0, 0, 0, 0, []) : xm_I) := rfl
theorem r_X3_leastSeconds_82 : co_X3_leastSeconds[82]? = some ((158, .iaload, 0, 0, 0, 0, 0, 0, []) : xm_I) := rfl
theorem r_X3_leastSeconds_83 : co_X3_leastSeconds[83]? = some ((159, .ireturn, 0, 0, 0, 0, 0, 0, []) : xm_I) := rfl
theorem p_X3_leastSeconds_0_0 {X : xm_X} {P : List xm_M} {d : Nat} {h : xm_H} {l0 : Nat} {l1 : Nat} {ro : Option Value} {ho : xm_H}  (K : xm_E X P d co_X3_leastSeconds 2 [some (.ref l0), some (.ref l1), some (.int (0 : Int32)), none, none, none] [] h ro ho) : xm_E X P d co_X3_leastSeconds 0 [some (.ref l0), some (.ref l1), none, none, none, none] [] h ro ho := by
  refine xm_E_s r_X3_leastSeconds_0 rfl rfl ?_
  refine xm_E_s (ls1 := [some (.ref l0), some (.ref l1), some (.int (0 : Int32)), none, none, none]) r_X3_leastSeconds_1 rfl rfl ?_
  exact K
theorem p_X3_leastSeconds_2_0 {X : xm_X} {P : List xm_M} {d : Nat} {h : xm_H} {l0 : Nat} {l1 : Nat} {l2 : Int32} {ro : Option Value} {ho : xm_H} (q0 : X.1[l0]? = some (.inr 3)) (q1 : h.1 l0 14 ≤ l2) (K : xm_E X P d co_X3_leastSeconds 30 [some (.ref l0), some (.ref l1), some (.int (1 : Int32)), some (.int (0 : Int32)), none, none] [] h ro ho) : xm_E X P d co_X3_leastSeconds 2 [some (.ref l0), some (.ref l1), some (.int l2), none, none, none] [] h ro ho := by
  refine xm_E_s r_X3_leastSeconds_2 rfl rfl ?_
  refine xm_E_s r_X3_leastSeconds_3 rfl rfl ?_
  refine xm_E_s r_X3_leastSeconds_4 rfl (xm_T_gi rfl q0 rfl (Or.inl rfl)) ?_
  refine xm_E_s r_X3_leastSeconds_5 rfl rfl ?_
  refine xm_E_t q1 ?_
  refine xm_E_s r_X3_leastSeconds_26 rfl rfl ?_
  refine xm_E_s (ls1 := [some (.ref l0), some (.ref l1), some (.int (1 : Int32)), none, none, none]) r_X3_leastSeconds_27 rfl rfl ?_
  refine xm_E_s r_X3_leastSeconds_28 rfl rfl ?_
  refine xm_E_s (ls1 := [some (.ref l0), some (.ref l1), some (.int (1 : Int32)), some (.int (0 : Int32)), none, none]) r_X3_leastSeconds_29 rfl rfl ?_
  exact K
theorem p_X3_leastSeconds_2_1 {X : xm_X} {P : List xm_M} {d : Nat} {h : xm_H} {l0 : Nat} {l1 : Nat} {l2 : Int32} {ro : Option Value} {ho : xm_H} (q0 : X.1[l0]? = some (.inr 3)) (q1 : ¬ (h.1 l0 14 ≤ l2)) (q2 : (640 : Int32) ≤ l2) (K : xm_E X P d co_X3_leastSeconds 30 [some (.ref l0), some (.ref l1), some (.int (1 : Int32)), some (.int (0 : Int32)), none, none] [] h ro ho) : xm_E X P d co_X3_leastSeconds 2 [some (.ref l0), some (.ref l1), some (.int l2), none, none, none] [] h ro ho := by
  refine xm_E_s r_X3_leastSeconds_2 rfl rfl ?_
  refine xm_E_s r_X3_leastSeconds_3 rfl rfl ?_
  refine xm_E_s r_X3_leastSeconds_4 rfl (xm_T_gi rfl q0 rfl (Or.inl rfl)) ?_
  refine xm_E_s r_X3_leastSeconds_5 rfl rfl ?_
  refine xm_E_f q1 ?_
  refine xm_E_s r_X3_leastSeconds_6 rfl rfl ?_
  refine xm_E_s r_X3_leastSeconds_7 rfl rfl ?_
  refine xm_E_s r_X3_leastSeconds_8 rfl rfl ?_
  refine xm_E_t q2 ?_
  refine xm_E_s r_X3_leastSeconds_26 rfl rfl ?_
  refine xm_E_s (ls1 := [some (.ref l0), some (.ref l1), some (.int (1 : Int32)), none, none, none]) r_X3_leastSeconds_27 rfl rfl ?_
  refine xm_E_s r_X3_leastSeconds_28 rfl rfl ?_
  refine xm_E_s (ls1 := [some (.ref l0), some (.ref l1), some (.int (1 : Int32)), some (.int (0 : Int32)), none, none]) r_X3_leastSeconds_29 rfl rfl ?_
  exact K
theorem p_X3_leastSeconds_2_2 {X : xm_X} {P : List xm_M} {d : Nat} {h : xm_H} {l0 : Nat} {l1 : Nat} {l2 : Int32} {v0 : Nat} {v1 : Nat} {v2 : Nat} {n3 : Nat} {h4 : xm_H} {r4 : Int32} {n5 : Nat} {ro : Option Value} {ho : xm_H} (q0 : X.1[l0]? = some (.inr 3)) (q1 : ¬ (h.1 l0 14 ≤ l2)) (q2 : ¬ ((640 : Int32) ≤ l2)) (q3 : h.2.2 l0 7 = some v0) (q4 : X.1[l1]? = some (.inr 0)) (q5 : h.2.2 l1 12 = some v1) (q6 : h.2.2 l0 2 = some v2) (q7 : X.1[v2]? = some (.inl (0, n3))) (q8 : ¬ (l2 < 0 ∨ n3 ≤ l2.toNatClampNeg)) (q9 : xm_V X P d 88 [.ref v1, .int (h.1 v2 l2.toNatClampNeg)] h (some (.int r4)) h4) (q10 : X.1[v1]? = some (.inr 7)) (q11 : r4 = (0 : Int32)) (q12 : X.1[v0]? = some (.inl (0, n5))) (q13 : ¬ (l2 < 0 ∨ n5 ≤ l2.toNatClampNeg)) (K : xm_E X P d co_X3_leastSeconds 2 [some (.ref l0), some (.ref l1), some (.int (l2 + (1 : Int32))), none, none, none] [] (xm_si h4 v0 l2.toNatClampNeg (1000000 : Int32)) ro ho) : xm_E X P d co_X3_leastSeconds 2 [some (.ref l0), some (.ref l1), some (.int l2), none, none, none] [] h ro ho := by
  refine xm_E_s r_X3_leastSeconds_2 rfl rfl ?_
  refine xm_E_s r_X3_leastSeconds_3 rfl rfl ?_
  refine xm_E_s r_X3_leastSeconds_4 rfl (xm_T_gi rfl q0 rfl (Or.inl rfl)) ?_
  refine xm_E_s r_X3_leastSeconds_5 rfl rfl ?_
  refine xm_E_f q1 ?_
  refine xm_E_s r_X3_leastSeconds_6 rfl rfl ?_
  refine xm_E_s r_X3_leastSeconds_7 rfl rfl ?_
  refine xm_E_s r_X3_leastSeconds_8 rfl rfl ?_
  refine xm_E_f q2 ?_
  refine xm_E_s r_X3_leastSeconds_9 rfl rfl ?_
  refine xm_E_s r_X3_leastSeconds_10 rfl (xm_T_gr rfl q0 rfl rfl q3) ?_
  refine xm_E_s r_X3_leastSeconds_11 rfl rfl ?_
  refine xm_E_s r_X3_leastSeconds_12 rfl rfl ?_
  refine xm_E_s r_X3_leastSeconds_13 rfl (xm_T_gr rfl q4 rfl rfl q5) ?_
  refine xm_E_s r_X3_leastSeconds_14 rfl rfl ?_
  refine xm_E_s r_X3_leastSeconds_15 rfl (xm_T_gr rfl q0 rfl rfl q6) ?_
  refine xm_E_s r_X3_leastSeconds_16 rfl rfl ?_
  refine xm_E_s r_X3_leastSeconds_17 rfl (xm_T_iald rfl q7 (by decide) q8) ?_
  refine xm_E_cv [.ref v1, .int (h.1 v2 l2.toNatClampNeg)] [.int l2, .ref v0] r_X3_leastSeconds_18 rfl rfl (Nat.le_of_ble_eq_true rfl) (xm_rc q10 (by decide)) rfl q9 ?_
  refine xm_E_s r_X3_leastSeconds_19 rfl rfl ?_
  refine xm_E_t q11 ?_
  refine xm_E_s r_X3_leastSeconds_22 rfl rfl ?_
  refine xm_E_s r_X3_leastSeconds_23 rfl (xm_T_asi rfl q12 q13) ?_
  refine xm_E_s (ls1 := [some (.ref l0), some (.ref l1), some (.int (l2 + (1 : Int32))), none, none, none]) r_X3_leastSeconds_24 rfl rfl ?_
  refine xm_E_s r_X3_leastSeconds_25 rfl rfl ?_
  exact K
theorem p_X3_leastSeconds_2_3 {X : xm_X} {P : List xm_M} {d : Nat} {h : xm_H} {l0 : Nat} {l1 : Nat} {l2 : Int32} {v0 : Nat} {v1 : Nat} {v2 : Nat} {n3 : Nat} {h4 : xm_H} {r4 : Int32} {n5 : Nat} {ro : Option Value} {ho : xm_H} (q0 : X.1[l0]? = some (.inr 3)) (q1 : ¬ (h.1 l0 14 ≤ l2)) (q2 : ¬ ((640 : Int32) ≤ l2)) (q3 : h.2.2 l0 7 = some v0) (q4 : X.1[l1]? = some (.inr 0)) (q5 : h.2.2 l1 12 = some v1) (q6 : h.2.2 l0 2 = some v2) (q7 : X.1[v2]? = some (.inl (0, n3))) (q8 : ¬ (l2 < 0 ∨ n3 ≤ l2.toNatClampNeg)) (q9 : xm_V X P d 88 [.ref v1, .int (h.1 v2 l2.toNatClampNeg)] h (some (.int r4)) h4) (q10 : X.1[v1]? = some (.inr 7)) (q11 : ¬ (r4 = (0 : Int32))) (q12 : X.1[v0]? = some (.inl (0, n5))) (q13 : ¬ (l2 < 0 ∨ n5 ≤ l2.toNatClampNeg)) (K : xm_E X P d co_X3_leastSeconds 2 [some (.ref l0), some (.ref l1), some (.int (l2 + (1 : Int32))), none, none, none] [] (xm_si h4 v0 l2.toNatClampNeg (0 : Int32)) ro ho) : xm_E X P d co_X3_leastSeconds 2 [some (.ref l0), some (.ref l1), some (.int l2), none, none, none] [] h ro ho := by
  refine xm_E_s r_X3_leastSeconds_2 rfl rfl ?_
  refine xm_E_s r_X3_leastSeconds_3 rfl rfl ?_
  refine xm_E_s r_X3_leastSeconds_4 rfl (xm_T_gi rfl q0 rfl (Or.inl rfl)) ?_
  refine xm_E_s r_X3_leastSeconds_5 rfl rfl ?_
  refine xm_E_f q1 ?_
  refine xm_E_s r_X3_leastSeconds_6 rfl rfl ?_
  refine xm_E_s r_X3_leastSeconds_7 rfl rfl ?_
  refine xm_E_s r_X3_leastSeconds_8 rfl rfl ?_
  refine xm_E_f q2 ?_
  refine xm_E_s r_X3_leastSeconds_9 rfl rfl ?_
  refine xm_E_s r_X3_leastSeconds_10 rfl (xm_T_gr rfl q0 rfl rfl q3) ?_
  refine xm_E_s r_X3_leastSeconds_11 rfl rfl ?_
  refine xm_E_s r_X3_leastSeconds_12 rfl rfl ?_
  refine xm_E_s r_X3_leastSeconds_13 rfl (xm_T_gr rfl q4 rfl rfl q5) ?_
  refine xm_E_s r_X3_leastSeconds_14 rfl rfl ?_
  refine xm_E_s r_X3_leastSeconds_15 rfl (xm_T_gr rfl q0 rfl rfl q6) ?_
  refine xm_E_s r_X3_leastSeconds_16 rfl rfl ?_
  refine xm_E_s r_X3_leastSeconds_17 rfl (xm_T_iald rfl q7 (by decide) q8) ?_
  refine xm_E_cv [.ref v1, .int (h.1 v2 l2.toNatClampNeg)] [.int l2, .ref v0] r_X3_leastSeconds_18 rfl rfl (Nat.le_of_ble_eq_true rfl) (xm_rc q10 (by decide)) rfl q9 ?_
  refine xm_E_s r_X3_leastSeconds_19 rfl rfl ?_
  refine xm_E_f q11 ?_
  refine xm_E_s r_X3_leastSeconds_20 rfl rfl ?_
  refine xm_E_s r_X3_leastSeconds_21 rfl rfl ?_
  refine xm_E_s r_X3_leastSeconds_23 rfl (xm_T_asi rfl q12 q13) ?_
  refine xm_E_s (ls1 := [some (.ref l0), some (.ref l1), some (.int (l2 + (1 : Int32))), none, none, none]) r_X3_leastSeconds_24 rfl rfl ?_
  refine xm_E_s r_X3_leastSeconds_25 rfl rfl ?_
  exact K
theorem p_X3_leastSeconds_30_0 {X : xm_X} {P : List xm_M} {d : Nat} {h : xm_H} {l0 : Nat} {l1 : Nat} {l2 : Int32} {l3 : Int32} {l4 : Option Value} {l5 : Option Value} (q0 : (640 : Int32) ≤ l3) (q1 : X.1[l0]? = some (.inr 3)) (q2 : h.1 l0 14 = (0 : Int32)) : xm_E X P d co_X3_leastSeconds 30 [some (.ref l0), some (.ref l1), some (.int l2), some (.int l3), l4, l5] [] h (some (.int (-1 : Int32))) h := by
  refine xm_E_s r_X3_leastSeconds_30 rfl rfl ?_
  refine xm_E_s r_X3_leastSeconds_31 rfl rfl ?_
  refine xm_E_s r_X3_leastSeconds_32 rfl rfl ?_
  refine xm_E_t q0 ?_
  refine xm_E_s r_X3_leastSeconds_68 rfl rfl ?_
  refine xm_E_s r_X3_leastSeconds_69 rfl (xm_T_gi rfl q1 rfl (Or.inl rfl)) ?_
  refine xm_E_s r_X3_leastSeconds_70 rfl rfl ?_
  refine xm_E_t q2 ?_
  refine xm_E_s r_X3_leastSeconds_77 rfl rfl ?_
  refine xm_E_s r_X3_leastSeconds_78 rfl rfl ?_
  exact xm_E_iret r_X3_leastSeconds_83 rfl rfl
theorem p_X3_leastSeconds_30_1 {X : xm_X} {P : List xm_M} {d : Nat} {h : xm_H} {l0 : Nat} {l1 : Nat} {l2 : Int32} {l3 : Int32} {l4 : Option Value} {l5 : Option Value} {v0 : Nat} {n1 : Nat} (q0 : (640 : Int32) ≤ l3) (q1 : X.1[l0]? = some (.inr 3)) (q2 : ¬ (h.1 l0 14 = (0 : Int32))) (q3 : h.2.2 l0 7 = some v0) (q4 : X.1[v0]? = some (.inl (0, n1))) (q5 : 0 < n1) (q6 : h.1 v0 0 < (1000000 : Int32)) : xm_E X P d co_X3_leastSeconds 30 [some (.ref l0), some (.ref l1), some (.int l2), some (.int l3), l4, l5] [] h (some (.int (h.1 v0 0))) h := by
  refine xm_E_s r_X3_leastSeconds_30 rfl rfl ?_
  refine xm_E_s r_X3_leastSeconds_31 rfl rfl ?_
  refine xm_E_s r_X3_leastSeconds_32 rfl rfl ?_
  refine xm_E_t q0 ?_
  refine xm_E_s r_X3_leastSeconds_68 rfl rfl ?_
  refine xm_E_s r_X3_leastSeconds_69 rfl (xm_T_gi rfl q1 rfl (Or.inl rfl)) ?_
  refine xm_E_s r_X3_leastSeconds_70 rfl rfl ?_
  refine xm_E_f q2 ?_
  refine xm_E_s r_X3_leastSeconds_71 rfl rfl ?_
  refine xm_E_s r_X3_leastSeconds_72 rfl (xm_T_gr rfl q1 rfl rfl q3) ?_
  refine xm_E_s r_X3_leastSeconds_73 rfl rfl ?_
  refine xm_E_s r_X3_leastSeconds_74 rfl (xm_T_iald rfl q4 (by decide) (fun e => e.elim (fun e => absurd e (by decide)) (fun e => Nat.not_le.mpr q5 e))) ?_
  refine xm_E_s r_X3_leastSeconds_75 rfl rfl ?_
  refine xm_E_s r_X3_leastSeconds_76 rfl rfl ?_
  refine xm_E_t q6 ?_
  refine xm_E_s r_X3_leastSeconds_79 rfl rfl ?_
  refine xm_E_s r_X3_leastSeconds_80 rfl (xm_T_gr rfl q1 rfl rfl q3) ?_
  refine xm_E_s r_X3_leastSeconds_81 rfl rfl ?_
  refine xm_E_s r_X3_leastSeconds_82 rfl (xm_T_iald rfl q4 (by decide) (fun e => e.elim (fun e => absurd e (by decide)) (fun e => Nat.not_le.mpr q5 e))) ?_
  exact xm_E_iret r_X3_leastSeconds_83 rfl rfl
theorem p_X3_leastSeconds_30_2 {X : xm_X} {P : List xm_M} {d : Nat} {h : xm_H} {l0 : Nat} {l1 : Nat} {l2 : Int32} {l3 : Int32} {l4 : Option Value} {l5 : Option Value} {v0 : Nat} {n1 : Nat} (q0 : (640 : Int32) ≤ l3) (q1 : X.1[l0]? = some (.inr 3)) (q2 : ¬ (h.1 l0 14 = (0 : Int32))) (q3 : h.2.2 l0 7 = some v0) (q4 : X.1[v0]? = some (.inl (0, n1))) (q5 : 0 < n1) (q6 : ¬ (h.1 v0 0 < (1000000 : Int32))) : xm_E X P d co_X3_leastSeconds 30 [some (.ref l0), some (.ref l1), some (.int l2), some (.int l3), l4, l5] [] h (some (.int (-1 : Int32))) h := by
  refine xm_E_s r_X3_leastSeconds_30 rfl rfl ?_
  refine xm_E_s r_X3_leastSeconds_31 rfl rfl ?_
  refine xm_E_s r_X3_leastSeconds_32 rfl rfl ?_
  refine xm_E_t q0 ?_
  refine xm_E_s r_X3_leastSeconds_68 rfl rfl ?_
  refine xm_E_s r_X3_leastSeconds_69 rfl (xm_T_gi rfl q1 rfl (Or.inl rfl)) ?_
  refine xm_E_s r_X3_leastSeconds_70 rfl rfl ?_
  refine xm_E_f q2 ?_
  refine xm_E_s r_X3_leastSeconds_71 rfl rfl ?_
  refine xm_E_s r_X3_leastSeconds_72 rfl (xm_T_gr rfl q1 rfl rfl q3) ?_
  refine xm_E_s r_X3_leastSeconds_73 rfl rfl ?_
  refine xm_E_s r_X3_leastSeconds_74 rfl (xm_T_iald rfl q4 (by decide) (fun e => e.elim (fun e => absurd e (by decide)) (fun e => Nat.not_le.mpr q5 e))) ?_
  refine xm_E_s r_X3_leastSeconds_75 rfl rfl ?_
  refine xm_E_s r_X3_leastSeconds_76 rfl rfl ?_
  refine xm_E_f q6 ?_
  refine xm_E_s r_X3_leastSeconds_77 rfl rfl ?_
  refine xm_E_s r_X3_leastSeconds_78 rfl rfl ?_
  exact xm_E_iret r_X3_leastSeconds_83 rfl rfl
theorem p_X3_leastSeconds_30_3 {X : xm_X} {P : List xm_M} {d : Nat} {h : xm_H} {l0 : Nat} {l1 : Nat} {l2 : Int32} {l3 : Int32} {l4 : Option Value} {l5 : Option Value} (q0 : ¬ ((640 : Int32) ≤ l3)) (q1 : l2 = (0 : Int32)) (q2 : X.1[l0]? = some (.inr 3)) (q3 : h.1 l0 14 = (0 : Int32)) : xm_E X P d co_X3_leastSeconds 30 [some (.ref l0), some (.ref l1), some (.int l2), some (.int l3), l4, l5] [] h (some (.int (-1 : Int32))) h := by
  refine xm_E_s r_X3_leastSeconds_30 rfl rfl ?_
  refine xm_E_s r_X3_leastSeconds_31 rfl rfl ?_
  refine xm_E_s r_X3_leastSeconds_32 rfl rfl ?_
  refine xm_E_f q0 ?_
  refine xm_E_s r_X3_leastSeconds_33 rfl rfl ?_
  refine xm_E_s r_X3_leastSeconds_34 rfl rfl ?_
  refine xm_E_t q1 ?_
  refine xm_E_s r_X3_leastSeconds_68 rfl rfl ?_
  refine xm_E_s r_X3_leastSeconds_69 rfl (xm_T_gi rfl q2 rfl (Or.inl rfl)) ?_
  refine xm_E_s r_X3_leastSeconds_70 rfl rfl ?_
  refine xm_E_t q3 ?_
  refine xm_E_s r_X3_leastSeconds_77 rfl rfl ?_
  refine xm_E_s r_X3_leastSeconds_78 rfl rfl ?_
  exact xm_E_iret r_X3_leastSeconds_83 rfl rfl
theorem p_X3_leastSeconds_30_4 {X : xm_X} {P : List xm_M} {d : Nat} {h : xm_H} {l0 : Nat} {l1 : Nat} {l2 : Int32} {l3 : Int32} {l4 : Option Value} {l5 : Option Value} {v0 : Nat} {n1 : Nat} (q0 : ¬ ((640 : Int32) ≤ l3)) (q1 : l2 = (0 : Int32)) (q2 : X.1[l0]? = some (.inr 3)) (q3 : ¬ (h.1 l0 14 = (0 : Int32))) (q4 : h.2.2 l0 7 = some v0) (q5 : X.1[v0]? = some (.inl (0, n1))) (q6 : 0 < n1) (q7 : h.1 v0 0 < (1000000 : Int32)) : xm_E X P d co_X3_leastSeconds 30 [some (.ref l0), some (.ref l1), some (.int l2), some (.int l3), l4, l5] [] h (some (.int (h.1 v0 0))) h := by
  refine xm_E_s r_X3_leastSeconds_30 rfl rfl ?_
  refine xm_E_s r_X3_leastSeconds_31 rfl rfl ?_
  refine xm_E_s r_X3_leastSeconds_32 rfl rfl ?_
  refine xm_E_f q0 ?_
  refine xm_E_s r_X3_leastSeconds_33 rfl rfl ?_
  refine xm_E_s r_X3_leastSeconds_34 rfl rfl ?_
  refine xm_E_t q1 ?_
  refine xm_E_s r_X3_leastSeconds_68 rfl rfl ?_
  refine xm_E_s r_X3_leastSeconds_69 rfl (xm_T_gi rfl q2 rfl (Or.inl rfl)) ?_
  refine xm_E_s r_X3_leastSeconds_70 rfl rfl ?_
  refine xm_E_f q3 ?_
  refine xm_E_s r_X3_leastSeconds_71 rfl rfl ?_
  refine xm_E_s r_X3_leastSeconds_72 rfl (xm_T_gr rfl q2 rfl rfl q4) ?_
  refine xm_E_s r_X3_leastSeconds_73 rfl rfl ?_
  refine xm_E_s r_X3_leastSeconds_74 rfl (xm_T_iald rfl q5 (by decide) (fun e => e.elim (fun e => absurd e (by decide)) (fun e => Nat.not_le.mpr q6 e))) ?_
  refine xm_E_s r_X3_leastSeconds_75 rfl rfl ?_
  refine xm_E_s r_X3_leastSeconds_76 rfl rfl ?_
  refine xm_E_t q7 ?_
  refine xm_E_s r_X3_leastSeconds_79 rfl rfl ?_
  refine xm_E_s r_X3_leastSeconds_80 rfl (xm_T_gr rfl q2 rfl rfl q4) ?_
  refine xm_E_s r_X3_leastSeconds_81 rfl rfl ?_
  refine xm_E_s r_X3_leastSeconds_82 rfl (xm_T_iald rfl q5 (by decide) (fun e => e.elim (fun e => absurd e (by decide)) (fun e => Nat.not_le.mpr q6 e))) ?_
  exact xm_E_iret r_X3_leastSeconds_83 rfl rfl
theorem p_X3_leastSeconds_30_5 {X : xm_X} {P : List xm_M} {d : Nat} {h : xm_H} {l0 : Nat} {l1 : Nat} {l2 : Int32} {l3 : Int32} {l4 : Option Value} {l5 : Option Value} {v0 : Nat} {n1 : Nat} (q0 : ¬ ((640 : Int32) ≤ l3)) (q1 : l2 = (0 : Int32)) (q2 : X.1[l0]? = some (.inr 3)) (q3 : ¬ (h.1 l0 14 = (0 : Int32))) (q4 : h.2.2 l0 7 = some v0) (q5 : X.1[v0]? = some (.inl (0, n1))) (q6 : 0 < n1) (q7 : ¬ (h.1 v0 0 < (1000000 : Int32))) : xm_E X P d co_X3_leastSeconds 30 [some (.ref l0), some (.ref l1), some (.int l2), some (.int l3), l4, l5] [] h (some (.int (-1 : Int32))) h := by
  refine xm_E_s r_X3_leastSeconds_30 rfl rfl ?_
  refine xm_E_s r_X3_leastSeconds_31 rfl rfl ?_
  refine xm_E_s r_X3_leastSeconds_32 rfl rfl ?_
  refine xm_E_f q0 ?_
  refine xm_E_s r_X3_leastSeconds_33 rfl rfl ?_
  refine xm_E_s r_X3_leastSeconds_34 rfl rfl ?_
  refine xm_E_t q1 ?_
  refine xm_E_s r_X3_leastSeconds_68 rfl rfl ?_
  refine xm_E_s r_X3_leastSeconds_69 rfl (xm_T_gi rfl q2 rfl (Or.inl rfl)) ?_
  refine xm_E_s r_X3_leastSeconds_70 rfl rfl ?_
  refine xm_E_f q3 ?_
  refine xm_E_s r_X3_leastSeconds_71 rfl rfl ?_
  refine xm_E_s r_X3_leastSeconds_72 rfl (xm_T_gr rfl q2 rfl rfl q4) ?_
  refine xm_E_s r_X3_leastSeconds_73 rfl rfl ?_
  refine xm_E_s r_X3_leastSeconds_74 rfl (xm_T_iald rfl q5 (by decide) (fun e => e.elim (fun e => absurd e (by decide)) (fun e => Nat.not_le.mpr q6 e))) ?_
  refine xm_E_s r_X3_leastSeconds_75 rfl rfl ?_
  refine xm_E_s r_X3_leastSeconds_76 rfl rfl ?_
  refine xm_E_f q7 ?_
  refine xm_E_s r_X3_leastSeconds_77 rfl rfl ?_
  refine xm_E_s r_X3_leastSeconds_78 rfl rfl ?_
  exact xm_E_iret r_X3_leastSeconds_83 rfl rfl
theorem p_X3_leastSeconds_30_6 {X : xm_X} {P : List xm_M} {d : Nat} {h : xm_H} {l0 : Nat} {l1 : Nat} {l2 : Int32} {l3 : Int32} {l4 : Option Value} {l5 : Option Value} {ro : Option Value} {ho : xm_H} (q0 : ¬ ((640 : Int32) ≤ l3)) (q1 : ¬ (l2 = (0 : Int32))) (q2 : X.1[l0]? = some (.inr 3)) (K : xm_E X P d co_X3_leastSeconds 44 [some (.ref l0), some (.ref l1), some (.int (0 : Int32)), some (.int l3), some (.int ((if (640 : Int32) < h.1 l0 14 then (640 : Int32) else h.1 l0 14) - (1 : Int32))), l5] [] h ro ho) : xm_E X P d co_X3_leastSeconds 30 [some (.ref l0), some (.ref l1), some (.int l2), some (.int l3), l4, l5] [] h ro ho := by
  refine xm_E_s r_X3_leastSeconds_30 rfl rfl ?_
  refine xm_E_s r_X3_leastSeconds_31 rfl rfl ?_
  refine xm_E_s r_X3_leastSeconds_32 rfl rfl ?_
  refine xm_E_f q0 ?_
  refine xm_E_s r_X3_leastSeconds_33 rfl rfl ?_
  refine xm_E_s r_X3_leastSeconds_34 rfl rfl ?_
  refine xm_E_f q1 ?_
  refine xm_E_s r_X3_leastSeconds_35 rfl rfl ?_
  refine xm_E_s (ls1 := [some (.ref l0), some (.ref l1), some (.int (0 : Int32)), some (.int l3), l4, l5]) r_X3_leastSeconds_36 rfl rfl ?_
  refine xm_E_s r_X3_leastSeconds_37 rfl rfl ?_
  refine xm_E_s r_X3_leastSeconds_38 rfl (xm_T_gi rfl q2 rfl (Or.inl rfl)) ?_
  refine xm_E_s r_X3_leastSeconds_39 rfl rfl ?_
  refine xm_E_s r_X3_leastSeconds_40 rfl rfl ?_
  refine xm_E_s r_X3_leastSeconds_41 rfl rfl ?_
  refine xm_E_s r_X3_leastSeconds_42 rfl rfl ?_
  refine xm_E_s (ls1 := [some (.ref l0), some (.ref l1), some (.int (0 : Int32)), some (.int l3), some (.int ((if (640 : Int32) < h.1 l0 14 then (640 : Int32) else h.1 l0 14) - (1 : Int32))), l5]) r_X3_leastSeconds_43 rfl rfl ?_
  exact K
theorem p_X3_leastSeconds_44_0 {X : xm_X} {P : List xm_M} {d : Nat} {h : xm_H} {l0 : Nat} {l1 : Nat} {l2 : Int32} {l3 : Int32} {l4 : Int32} {l5 : Option Value} {ro : Option Value} {ho : xm_H} (q0 : l4 < (0 : Int32)) (K : xm_E X P d co_X3_leastSeconds 30 [some (.ref l0), some (.ref l1), some (.int l2), some (.int (l3 + (1 : Int32))), some (.int l4), l5] [] h ro ho) : xm_E X P d co_X3_leastSeconds 44 [some (.ref l0), some (.ref l1), some (.int l2), some (.int l3), some (.int l4), l5] [] h ro ho := by
  refine xm_E_s r_X3_leastSeconds_44 rfl rfl ?_
  refine xm_E_s r_X3_leastSeconds_45 rfl rfl ?_
  refine xm_E_t q0 ?_
  refine xm_E_s (ls1 := [some (.ref l0), some (.ref l1), some (.int l2), some (.int (l3 + (1 : Int32))), some (.int l4), l5]) r_X3_leastSeconds_66 rfl rfl ?_
  refine xm_E_s r_X3_leastSeconds_67 rfl rfl ?_
  exact K
theorem p_X3_leastSeconds_44_1 {X : xm_X} {P : List xm_M} {d : Nat} {h : xm_H} {l0 : Nat} {l1 : Nat} {l2 : Int32} {l3 : Int32} {l4 : Int32} {l5 : Option Value} {h0 : xm_H} {r0 : Int32} {v1 : Nat} {n2 : Nat} {ro : Option Value} {ho : xm_H} (q0 : ¬ (l4 < (0 : Int32))) (q1 : xm_V X P d 95 [.ref l0, .ref l1, .int l4] h (some (.int r0)) h0) (q2 : X.1[l0]? = some (.inr 3)) (q3 : h0.2.2 l0 7 = some v1) (q4 : X.1[v1]? = some (.inl (0, n2))) (q5 : ¬ (l4 < 0 ∨ n2 ≤ l4.toNatClampNeg)) (q6 : h0.1 v1 l4.toNatClampNeg ≤ r0) (K : xm_E X P d co_X3_leastSeconds 44 [some (.ref l0), some (.ref l1), some (.int l2), some (.int l3), some (.int (l4 + (-1 : Int32))), some (.int r0)] [] h0 ro ho) : xm_E X P d co_X3_leastSeconds 44 [some (.ref l0), some (.ref l1), some (.int l2), some (.int l3), some (.int l4), l5] [] h ro ho := by
  refine xm_E_s r_X3_leastSeconds_44 rfl rfl ?_
  refine xm_E_s r_X3_leastSeconds_45 rfl rfl ?_
  refine xm_E_f q0 ?_
  refine xm_E_s r_X3_leastSeconds_46 rfl rfl ?_
  refine xm_E_s r_X3_leastSeconds_47 rfl rfl ?_
  refine xm_E_s r_X3_leastSeconds_48 rfl rfl ?_
  refine xm_E_cv [.ref l0, .ref l1, .int l4] [] r_X3_leastSeconds_49 rfl rfl (Nat.le_of_ble_eq_true rfl) (xm_rc q2 (by decide)) rfl q1 ?_
  refine xm_E_s (ls1 := [some (.ref l0), some (.ref l1), some (.int l2), some (.int l3), some (.int l4), some (.int r0)]) r_X3_leastSeconds_50 rfl rfl ?_
  refine xm_E_s r_X3_leastSeconds_51 rfl rfl ?_
  refine xm_E_s r_X3_leastSeconds_52 rfl rfl ?_
  refine xm_E_s r_X3_leastSeconds_53 rfl (xm_T_gr rfl q2 rfl rfl q3) ?_
  refine xm_E_s r_X3_leastSeconds_54 rfl rfl ?_
  refine xm_E_s r_X3_leastSeconds_55 rfl (xm_T_iald rfl q4 (by decide) q5) ?_
  refine xm_E_s r_X3_leastSeconds_56 rfl rfl ?_
  refine xm_E_t q6 ?_
  refine xm_E_s (ls1 := [some (.ref l0), some (.ref l1), some (.int l2), some (.int l3), some (.int (l4 + (-1 : Int32))), some (.int r0)]) r_X3_leastSeconds_64 rfl rfl ?_
  refine xm_E_s r_X3_leastSeconds_65 rfl rfl ?_
  exact K
theorem p_X3_leastSeconds_44_2 {X : xm_X} {P : List xm_M} {d : Nat} {h : xm_H} {l0 : Nat} {l1 : Nat} {l2 : Int32} {l3 : Int32} {l4 : Int32} {l5 : Option Value} {h0 : xm_H} {r0 : Int32} {v1 : Nat} {n2 : Nat} {ro : Option Value} {ho : xm_H} (q0 : ¬ (l4 < (0 : Int32))) (q1 : xm_V X P d 95 [.ref l0, .ref l1, .int l4] h (some (.int r0)) h0) (q2 : X.1[l0]? = some (.inr 3)) (q3 : h0.2.2 l0 7 = some v1) (q4 : X.1[v1]? = some (.inl (0, n2))) (q5 : ¬ (l4 < 0 ∨ n2 ≤ l4.toNatClampNeg)) (q6 : ¬ (h0.1 v1 l4.toNatClampNeg ≤ r0)) (K : xm_E X P d co_X3_leastSeconds 44 [some (.ref l0), some (.ref l1), some (.int (1 : Int32)), some (.int l3), some (.int (l4 + (-1 : Int32))), some (.int r0)] [] (xm_si h0 v1 l4.toNatClampNeg r0) ro ho) : xm_E X P d co_X3_leastSeconds 44 [some (.ref l0), some (.ref l1), some (.int l2), some (.int l3), some (.int l4), l5] [] h ro ho := by
  refine xm_E_s r_X3_leastSeconds_44 rfl rfl ?_
  refine xm_E_s r_X3_leastSeconds_45 rfl rfl ?_
  refine xm_E_f q0 ?_
  refine xm_E_s r_X3_leastSeconds_46 rfl rfl ?_
  refine xm_E_s r_X3_leastSeconds_47 rfl rfl ?_
  refine xm_E_s r_X3_leastSeconds_48 rfl rfl ?_
  refine xm_E_cv [.ref l0, .ref l1, .int l4] [] r_X3_leastSeconds_49 rfl rfl (Nat.le_of_ble_eq_true rfl) (xm_rc q2 (by decide)) rfl q1 ?_
  refine xm_E_s (ls1 := [some (.ref l0), some (.ref l1), some (.int l2), some (.int l3), some (.int l4), some (.int r0)]) r_X3_leastSeconds_50 rfl rfl ?_
  refine xm_E_s r_X3_leastSeconds_51 rfl rfl ?_
  refine xm_E_s r_X3_leastSeconds_52 rfl rfl ?_
  refine xm_E_s r_X3_leastSeconds_53 rfl (xm_T_gr rfl q2 rfl rfl q3) ?_
  refine xm_E_s r_X3_leastSeconds_54 rfl rfl ?_
  refine xm_E_s r_X3_leastSeconds_55 rfl (xm_T_iald rfl q4 (by decide) q5) ?_
  refine xm_E_s r_X3_leastSeconds_56 rfl rfl ?_
  refine xm_E_f q6 ?_
  refine xm_E_s r_X3_leastSeconds_57 rfl rfl ?_
  refine xm_E_s r_X3_leastSeconds_58 rfl (xm_T_gr rfl q2 rfl rfl q3) ?_
  refine xm_E_s r_X3_leastSeconds_59 rfl rfl ?_
  refine xm_E_s r_X3_leastSeconds_60 rfl rfl ?_
  refine xm_E_s r_X3_leastSeconds_61 rfl (xm_T_asi rfl q4 q5) ?_
  refine xm_E_s r_X3_leastSeconds_62 rfl rfl ?_
  refine xm_E_s (ls1 := [some (.ref l0), some (.ref l1), some (.int (1 : Int32)), some (.int l3), some (.int l4), some (.int r0)]) r_X3_leastSeconds_63 rfl rfl ?_
  refine xm_E_s (ls1 := [some (.ref l0), some (.ref l1), some (.int (1 : Int32)), some (.int l3), some (.int (l4 + (-1 : Int32))), some (.int r0)]) r_X3_leastSeconds_64 rfl rfl ?_
  refine xm_E_s r_X3_leastSeconds_65 rfl rfl ?_
  exact K
theorem r_X3_cheapest_0 : co_X3_cheapest[0]? = some ((0, .aload_n 0, 0, 0, 0, 0, 0, 0, []) : xm_I) := rfl
theorem r_X3_cheapest_1 : co_X3_cheapest[1]? = some ((1, .getfield 33, 347, 3, 7, 2, 0, 0, []) : xm_I) := rfl
theorem r_X3_cheapest_2 : co_X3_cheapest[2]? = some ((4, .iload_n 2, 0, 0, 0, 0, 0, 0, []) : xm_I) := rfl
theorem r_X3_cheapest_3 : co_X3_cheapest[3]? = some ((5, .iaload, 0, 0, 0, 0, 0, 0, []) : xm_I) := rfl
theorem r_X3_cheapest_4 : co_X3_cheapest[4]? = some ((6, .istore_n 3, 0, 0, 0, 0, 0, 0, []) : xm_I) := rfl
theorem r_X3_cheapest_5 : co_X3_cheapest[5]? = some ((7, .iconst 0, 0, 0, 0, 0, 0, 0, []) : xm_I) := rfl
theorem r_X3_cheapest_6 : co_X3_cheapest[6]? = some ((8, .istore 4, 0, 0, 0, 0, 0, 0, []) : xm_I) := rfl
theorem r_X3_cheapest_7 : co_X3_cheapest[7]? = some ((10, .iload 4, 0, 0, 0, 0, 0, 0, []) : xm_I) := rfl
theorem r_X3_cheapest_8 : co_X3_cheapest[8]? = some ((12, .bipush 10, 0, 0, 0, 0, 10, 0, []) : xm_I) := rfl
theorem r_X3_cheapest_9 : co_X3_cheapest[9]? = some ((14, .if_icmp .ge 50, 0, 0, 33, 0, 0, 0, []) : xm_I) := rfl
theorem r_X3_cheapest_10 : co_X3_cheapest[10]? = some ((17, .aload_n 0, 0, 0, 0, 0, 0, 0, []) : xm_I) := rfl
theorem r_X3_cheapest_11 : co_X3_cheapest[11]? = some ((18, .iload_n 2, 0, 0, 0, 0, 0, 0, []) : xm_I) := rfl
theorem r_X3_cheapest_12 : co_X3_cheapest[12]? = some ((19, .iload 4, 0, 0, 0, 0, 0, 0, []) : xm_I) := rfl
theorem r_X3_cheapest_13 : co_X3_cheapest[13]? = some ((21, .invokevirtual 136, 960, 96, 3, 3, 0, 0, []) : xm_I) := rfl
theorem r_X3_cheapest_14 : co_X3_cheapest[14]? = some ((24, .istore 5, 0, 0, 0, 0, 0, 0, []) : xm_I) := rfl
theorem r_X3_cheapest_15 : co_X3_cheapest[15]? = some ((26, .iload 5, 0, 0, 0, 0, 0, 0, []) : xm_I) := rfl
theorem r_X3_cheapest_16 : co_X3_cheapest[16]? = some ((28, .ifCond .lt 30, 0, 0, 31, 0, 0, 0, []) : xm_I) := rfl
theorem r_X3_cheapest_17 : co_X3_cheapest[17]? = some ((31, .iload 5, 0, 0, 0, 0, 0, 0, []) : xm_I) := rfl
theorem r_X3_cheapest_18 : co_X3_cheapest[18]? = some ((33, .sipush 640, 0, 0, 0, 0, 640, 0, []) : xm_I) := rfl
theorem r_X3_cheapest_19 : co_X3_cheapest[19]? = some ((36, .if_icmp .ge 22, 0, 0, 31, 0, 0, 0, []) : xm_I) := rfl
theorem r_X3_cheapest_20 : co_X3_cheapest[20]? = some ((39, .iload_n 3, 0, 0, 0, 0, 0, 0, []) : xm_I) := rfl
theorem r_X3_cheapest_21 : co_X3_cheapest[21]? = some ((40, .aload_n 0, 0, 0, 0, 0, 0, 0, []) : xm_I) := rfl
theorem r_X3_cheapest_22 : co_X3_cheapest[22]? = some ((41, .getfield 33, 347, 3, 7, 2, 0, 0, []) : xm_I) := rfl
theorem r_X3_cheapest_23 : co_X3_cheapest[23]? = some ((44, .iload 5, 0, 0, 0, 0, 0, 0, []) : xm_I) := rfl
theorem r_X3_cheapest_24 : co_X3_cheapest[24]? = some ((46, .iaload, 0, 0, 0, 0, 0, 0, []) : xm_I) := rfl
theorem r_X3_cheapest_25 : co_X3_cheapest[25]? = some ((47, .aload_n 1, 0, 0, 0, 0, 0, 0, []) : xm_I) := rfl
theorem r_X3_cheapest_26 : co_X3_cheapest[26]? = some ((48, .iload 4, 0, 0, 0, 0, 0, 0, []) : xm_I) := rfl
theorem r_X3_cheapest_27 : co_X3_cheapest[27]? = some ((50, .invokevirtual 139, 964, 54, 2, 0, 0, 0, []) : xm_I) := rfl
theorem r_X3_cheapest_28 : co_X3_cheapest[28]? = some ((53, .iadd, 0, 0, 0, 0, 0, 0, []) : xm_I) := rfl
theorem r_X3_cheapest_29 : co_X3_cheapest[29]? = some ((54, .invokestatic 127, 955, 0, 0, 3, 0, 0, []) : xm_I) := rfl
theorem r_X3_cheapest_30 : co_X3_cheapest[30]? = some ((57, .istore_n 3, 0, 0, 0, 0, 0, 0, []) : xm_I) := rfl
theorem r_X3_cheapest_31 : co_X3_cheapest[31]? = some ((58, .iinc 4 1, 0, 0, 0, 0, 1, 0, []) : xm_I) := rfl
theorem r_X3_cheapest_32 : co_X3_cheapest[32]? = some ((61, .goto (-51), 0, 0, 7, 0, 0, 0, []) : xm_I) := rfl
theorem r_X3_cheapest_33 : co_X3_cheapest[33]? = some ((64, .iload_n 3, 0, 0, 0, 0, 0, 0, []) : xm_I) := rfl
theorem r_X3_cheapest_34 : co_X3_cheapest[34]? = some ((65, .ireturn, 0, 0, 0, 0, 0, 0, []) : xm_I) := rfl
theorem p_X3_cheapest_0_0 {X : xm_X} {P : List xm_M} {d : Nat} {h : xm_H} {l0 : Nat} {l1 : Nat} {l2 : Int32} {v0 : Nat} {n1 : Nat} {ro : Option Value} {ho : xm_H} (q0 : X.1[l0]? = some (.inr 3)) (q1 : h.2.2 l0 7 = some v0) (q2 : X.1[v0]? = some (.inl (0, n1))) (q3 : ¬ (l2 < 0 ∨ n1 ≤ l2.toNatClampNeg)) (K : xm_E X P d co_X3_cheapest 7 [some (.ref l0), some (.ref l1), some (.int l2), some (.int (h.1 v0 l2.toNatClampNeg)), some (.int (0 : Int32)), none] [] h ro ho) : xm_E X P d co_X3_cheapest 0 [some (.ref l0), some (.ref l1), some (.int l2), none, none, none] [] h ro ho := by
  refine xm_E_s r_X3_cheapest_0 rfl rfl ?_
  refine xm_E_s r_X3_cheapest_1 rfl (xm_T_gr rfl q0 rfl rfl q1) ?_
  refine xm_E_s r_X3_cheapest_2 rfl rfl ?_
  refine xm_E_s r_X3_cheapest_3 rfl (xm_T_iald rfl q2 (by decide) q3) ?_
  refine xm_E_s (ls1 := [some (.ref l0), some (.ref l1), some (.int l2), some (.int (h.1 v0 l2.toNatClampNeg)), none, none]) r_X3_cheapest_4 rfl rfl ?_
  refine xm_E_s r_X3_cheapest_5 rfl rfl ?_
  refine xm_E_s (ls1 := [some (.ref l0), some (.ref l1), some (.int l2), some (.int (h.1 v0 l2.toNatClampNeg)), some (.int (0 : Int32)), none]) r_X3_cheapest_6 rfl rfl ?_
  exact K
theorem p_X3_cheapest_7_0 {X : xm_X} {P : List xm_M} {d : Nat} {h : xm_H} {l0 : Nat} {l1 : Nat} {l2 : Int32} {l3 : Int32} {l4 : Int32} {l5 : Option Value} (q0 : (10 : Int32) ≤ l4) : xm_E X P d co_X3_cheapest 7 [some (.ref l0), some (.ref l1), some (.int l2), some (.int l3), some (.int l4), l5] [] h (some (.int l3)) h := by
  refine xm_E_s r_X3_cheapest_7 rfl rfl ?_
  refine xm_E_s r_X3_cheapest_8 rfl rfl ?_
  refine xm_E_s r_X3_cheapest_9 rfl rfl ?_
  refine xm_E_t q0 ?_
  refine xm_E_s r_X3_cheapest_33 rfl rfl ?_
  exact xm_E_iret r_X3_cheapest_34 rfl rfl
theorem p_X3_cheapest_7_1 {X : xm_X} {P : List xm_M} {d : Nat} {h : xm_H} {l0 : Nat} {l1 : Nat} {l2 : Int32} {l3 : Int32} {l4 : Int32} {l5 : Option Value} {h0 : xm_H} {r0 : Int32} {ro : Option Value} {ho : xm_H} (q0 : ¬ ((10 : Int32) ≤ l4)) (q1 : xm_V X P d 96 [.ref l0, .int l2, .int l4] h (some (.int r0)) h0) (q2 : X.1[l0]? = some (.inr 3)) (q3 : r0 < (0 : Int32)) (K : xm_E X P d co_X3_cheapest 7 [some (.ref l0), some (.ref l1), some (.int l2), some (.int l3), some (.int (l4 + (1 : Int32))), some (.int r0)] [] h0 ro ho) : xm_E X P d co_X3_cheapest 7 [some (.ref l0), some (.ref l1), some (.int l2), some (.int l3), some (.int l4), l5] [] h ro ho := by
  refine xm_E_s r_X3_cheapest_7 rfl rfl ?_
  refine xm_E_s r_X3_cheapest_8 rfl rfl ?_
  refine xm_E_s r_X3_cheapest_9 rfl rfl ?_
  refine xm_E_f q0 ?_
  refine xm_E_s r_X3_cheapest_10 rfl rfl ?_
  refine xm_E_s r_X3_cheapest_11 rfl rfl ?_
  refine xm_E_s r_X3_cheapest_12 rfl rfl ?_
  refine xm_E_cv [.ref l0, .int l2, .int l4] [] r_X3_cheapest_13 rfl rfl (Nat.le_of_ble_eq_true rfl) (xm_rc q2 (by decide)) rfl q1 ?_
  refine xm_E_s (ls1 := [some (.ref l0), some (.ref l1), some (.int l2), some (.int l3), some (.int l4), some (.int r0)]) r_X3_cheapest_14 rfl rfl ?_
  refine xm_E_s r_X3_cheapest_15 rfl rfl ?_
  refine xm_E_s r_X3_cheapest_16 rfl rfl ?_
  refine xm_E_t q3 ?_
  refine xm_E_s (ls1 := [some (.ref l0), some (.ref l1), some (.int l2), some (.int l3), some (.int (l4 + (1 : Int32))), some (.int r0)]) r_X3_cheapest_31 rfl rfl ?_
  refine xm_E_s r_X3_cheapest_32 rfl rfl ?_
  exact K
theorem p_X3_cheapest_7_2 {X : xm_X} {P : List xm_M} {d : Nat} {h : xm_H} {l0 : Nat} {l1 : Nat} {l2 : Int32} {l3 : Int32} {l4 : Int32} {l5 : Option Value} {h0 : xm_H} {r0 : Int32} {ro : Option Value} {ho : xm_H} (q0 : ¬ ((10 : Int32) ≤ l4)) (q1 : xm_V X P d 96 [.ref l0, .int l2, .int l4] h (some (.int r0)) h0) (q2 : X.1[l0]? = some (.inr 3)) (q3 : ¬ (r0 < (0 : Int32))) (q4 : (640 : Int32) ≤ r0) (K : xm_E X P d co_X3_cheapest 7 [some (.ref l0), some (.ref l1), some (.int l2), some (.int l3), some (.int (l4 + (1 : Int32))), some (.int r0)] [] h0 ro ho) : xm_E X P d co_X3_cheapest 7 [some (.ref l0), some (.ref l1), some (.int l2), some (.int l3), some (.int l4), l5] [] h ro ho := by
  refine xm_E_s r_X3_cheapest_7 rfl rfl ?_
  refine xm_E_s r_X3_cheapest_8 rfl rfl ?_
  refine xm_E_s r_X3_cheapest_9 rfl rfl ?_
  refine xm_E_f q0 ?_
  refine xm_E_s r_X3_cheapest_10 rfl rfl ?_
  refine xm_E_s r_X3_cheapest_11 rfl rfl ?_
  refine xm_E_s r_X3_cheapest_12 rfl rfl ?_
  refine xm_E_cv [.ref l0, .int l2, .int l4] [] r_X3_cheapest_13 rfl rfl (Nat.le_of_ble_eq_true rfl) (xm_rc q2 (by decide)) rfl q1 ?_
  refine xm_E_s (ls1 := [some (.ref l0), some (.ref l1), some (.int l2), some (.int l3), some (.int l4), some (.int r0)]) r_X3_cheapest_14 rfl rfl ?_
  refine xm_E_s r_X3_cheapest_15 rfl rfl ?_
  refine xm_E_s r_X3_cheapest_16 rfl rfl ?_
  refine xm_E_f q3 ?_
  refine xm_E_s r_X3_cheapest_17 rfl rfl ?_
  refine xm_E_s r_X3_cheapest_18 rfl rfl ?_
  refine xm_E_s r_X3_cheapest_19 rfl rfl ?_
  refine xm_E_t q4 ?_
  refine xm_E_s (ls1 := [some (.ref l0), some (.ref l1), some (.int l2), some (.int l3), some (.int (l4 + (1 : Int32))), some (.int r0)]) r_X3_cheapest_31 rfl rfl ?_
  refine xm_E_s r_X3_cheapest_32 rfl rfl ?_
  exact K
theorem p_X3_cheapest_7_3 {X : xm_X} {P : List xm_M} {d : Nat} {h : xm_H} {l0 : Nat} {l1 : Nat} {l2 : Int32} {l3 : Int32} {l4 : Int32} {l5 : Option Value} {h0 : xm_H} {r0 : Int32} {v1 : Nat} {n2 : Nat} {h3 : xm_H} {r3 : Int32} {ro : Option Value} {ho : xm_H} (q0 : ¬ ((10 : Int32) ≤ l4)) (q1 : xm_V X P d 96 [.ref l0, .int l2, .int l4] h (some (.int r0)) h0) (q2 : X.1[l0]? = some (.inr 3)) (q3 : ¬ (r0 < (0 : Int32))) (q4 : ¬ ((640 : Int32) ≤ r0)) (q5 : h0.2.2 l0 7 = some v1) (q6 : X.1[v1]? = some (.inl (0, n2))) (q7 : ¬ (r0 < 0 ∨ n2 ≤ r0.toNatClampNeg)) (q8 : xm_V X P d 54 [.ref l1, .int l4] h0 (some (.int r3)) h3) (q9 : X.1[l1]? = some (.inr 0)) (K : xm_E X P d co_X3_cheapest 7 [some (.ref l0), some (.ref l1), some (.int l2), some (.int (if (h0.1 v1 r0.toNatClampNeg) + r3 < l3 then (h0.1 v1 r0.toNatClampNeg) + r3 else l3)), some (.int (l4 + (1 : Int32))), some (.int r0)] [] h3 ro ho) : xm_E X P d co_X3_cheapest 7 [some (.ref l0), some (.ref l1), some (.int l2), some (.int l3), some (.int l4), l5] [] h ro ho := by
  refine xm_E_s r_X3_cheapest_7 rfl rfl ?_
  refine xm_E_s r_X3_cheapest_8 rfl rfl ?_
  refine xm_E_s r_X3_cheapest_9 rfl rfl ?_
  refine xm_E_f q0 ?_
  refine xm_E_s r_X3_cheapest_10 rfl rfl ?_
  refine xm_E_s r_X3_cheapest_11 rfl rfl ?_
  refine xm_E_s r_X3_cheapest_12 rfl rfl ?_
  refine xm_E_cv [.ref l0, .int l2, .int l4] [] r_X3_cheapest_13 rfl rfl (Nat.le_of_ble_eq_true rfl) (xm_rc q2 (by decide)) rfl q1 ?_
  refine xm_E_s (ls1 := [some (.ref l0), some (.ref l1), some (.int l2), some (.int l3), some (.int l4), some (.int r0)]) r_X3_cheapest_14 rfl rfl ?_
  refine xm_E_s r_X3_cheapest_15 rfl rfl ?_
  refine xm_E_s r_X3_cheapest_16 rfl rfl ?_
  refine xm_E_f q3 ?_
  refine xm_E_s r_X3_cheapest_17 rfl rfl ?_
  refine xm_E_s r_X3_cheapest_18 rfl rfl ?_
  refine xm_E_s r_X3_cheapest_19 rfl rfl ?_
  refine xm_E_f q4 ?_
  refine xm_E_s r_X3_cheapest_20 rfl rfl ?_
  refine xm_E_s r_X3_cheapest_21 rfl rfl ?_
  refine xm_E_s r_X3_cheapest_22 rfl (xm_T_gr rfl q2 rfl rfl q5) ?_
  refine xm_E_s r_X3_cheapest_23 rfl rfl ?_
  refine xm_E_s r_X3_cheapest_24 rfl (xm_T_iald rfl q6 (by decide) q7) ?_
  refine xm_E_s r_X3_cheapest_25 rfl rfl ?_
  refine xm_E_s r_X3_cheapest_26 rfl rfl ?_
  refine xm_E_cv [.ref l1, .int l4] [.int (h0.1 v1 r0.toNatClampNeg), .int l3] r_X3_cheapest_27 rfl rfl (Nat.le_of_ble_eq_true rfl) (xm_rc q9 (by decide)) rfl q8 ?_
  refine xm_E_s r_X3_cheapest_28 rfl rfl ?_
  refine xm_E_s r_X3_cheapest_29 rfl rfl ?_
  refine xm_E_s (ls1 := [some (.ref l0), some (.ref l1), some (.int l2), some (.int (if (h0.1 v1 r0.toNatClampNeg) + r3 < l3 then (h0.1 v1 r0.toNatClampNeg) + r3 else l3)), some (.int l4), some (.int r0)]) r_X3_cheapest_30 rfl rfl ?_
  refine xm_E_s (ls1 := [some (.ref l0), some (.ref l1), some (.int l2), some (.int (if (h0.1 v1 r0.toNatClampNeg) + r3 < l3 then (h0.1 v1 r0.toNatClampNeg) + r3 else l3)), some (.int (l4 + (1 : Int32))), some (.int r0)]) r_X3_cheapest_31 rfl rfl ?_
  refine xm_E_s r_X3_cheapest_32 rfl rfl ?_
  exact K
theorem r_X3_nextOf_0 : co_X3_nextOf[0]? = some ((0, .iload_n 1, 0, 0, 0, 0, 0, 0, []) : xm_I) := rfl
theorem r_X3_nextOf_1 : co_X3_nextOf[1]? = some ((1, .bipush 10, 0, 0, 0, 0, 10, 0, []) : xm_I) := rfl
theorem r_X3_nextOf_2 : co_X3_nextOf[2]? = some ((3, .imul, 0, 0, 0, 0, 0, 0, []) : xm_I) := rfl
theorem r_X3_nextOf_3 : co_X3_nextOf[3]? = some ((4, .iload_n 2, 0, 0, 0, 0, 0, 0, []) : xm_I) := rfl
theorem r_X3_nextOf_4 : co_X3_nextOf[4]? = some ((5, .iadd, 0, 0, 0, 0, 0, 0, []) : xm_I) := rfl
theorem r_X3_nextOf_5 : co_X3_nextOf[5]? = some ((6, .istore_n 3, 0, 0, 0, 0, 0, 0, []) : xm_I) := rfl
theorem r_X3_nextOf_6 : co_X3_nextOf[6]? = some ((7, .iload_n 3, 0, 0, 0, 0, 0, 0, []) : xm_I) := rfl
theorem r_X3_nextOf_7 : co_X3_nextOf[7]? = some ((8, .ifCond .lt 21, 0, 0, 18, 0, 0, 0, []) : xm_I) := rfl
theorem r_X3_nextOf_8 : co_X3_nextOf[8]? = some ((11, .iload_n 3, 0, 0, 0, 0, 0, 0, []) : xm_I) := rfl
theorem r_X3_nextOf_9 : co_X3_nextOf[9]? = some ((12, .aload_n 0, 0, 0, 0, 0, 0, 0, []) : xm_I) := rfl
theorem r_X3_nextOf_10 : co_X3_nextOf[10]? = some ((13, .getfield 21, 343, 3, 3, 2, 0, 0, []) : xm_I) := rfl
theorem r_X3_nextOf_11 : co_X3_nextOf[11]? = some ((16, .arraylength, 0, 0, 0, 0, 0, 0, []) : xm_I) := rfl
theorem r_X3_nextOf_12 : co_X3_nextOf[12]? = some ((17, .if_icmp .ge 12, 0, 0, 18, 0, 0, 0, []) : xm_I) := rfl
theorem r_X3_nextOf_13 : co_X3_nextOf[13]? = some ((20, .aload_n 0, 0, 0, 0, 0, 0, 0, []) : xm_I) := rfl
theorem r_X3_nextOf_14 : co_X3_nextOf[14]? = some ((21, .getfield 21, 343, 3, 3, 2, 0, 0, []) : xm_I) := rfl
theorem r_X3_nextOf_15 : co_X3_nextOf[15]? = some ((24, .iload_n 3, 0, 0, 0, 0, 0, 0, []) : xm_I) := rfl
theorem r_X3_nextOf_16 : co_X3_nextOf[16]? = some ((25, .iaload, 0, 0, 0, 0, 0, 0, []) : xm_I) := rfl
theorem r_X3_nextOf_17 : co_X3_nextOf[17]? = some ((26, .goto 4, 0, 0, 19, 0, 0, 0, []) : xm_I) := rfl
theorem r_X3_nextOf_18 : co_X3_nextOf[18]? = some ((29, .iconst (-1), 0, 0, 0, 0, (-1), 0, []) : xm_I) := rfl
theorem r_X3_nextOf_19 : co_X3_nextOf[19]? = some ((30, .ireturn, 0, 0, 0, 0, 0, 0, []) : xm_I) := rfl
theorem p_X3_nextOf_0_0 {X : xm_X} {P : List xm_M} {d : Nat} {h : xm_H} {l0 : Nat} {l1 : Int32} {l2 : Int32} (q0 : (l1 * (10 : Int32)) + l2 < (0 : Int32)) : xm_E X P d co_X3_nextOf 0 [some (.ref l0), some (.int l1), some (.int l2), none] [] h (some (.int (-1 : Int32))) h := by
  refine xm_E_s r_X3_nextOf_0 rfl rfl ?_
  refine xm_E_s r_X3_nextOf_1 rfl rfl ?_
  refine xm_E_s r_X3_nextOf_2 rfl rfl ?_
  refine xm_E_s r_X3_nextOf_3 rfl rfl ?_
  refine xm_E_s r_X3_nextOf_4 rfl rfl ?_
  refine xm_E_s (ls1 := [some (.ref l0), some (.int l1), some (.int l2), some (.int ((l1 * (10 : Int32)) + l2))]) r_X3_nextOf_5 rfl rfl ?_
  refine xm_E_s r_X3_nextOf_6 rfl rfl ?_
  refine xm_E_s r_X3_nextOf_7 rfl rfl ?_
  refine xm_E_t q0 ?_
  refine xm_E_s r_X3_nextOf_18 rfl rfl ?_
  exact xm_E_iret r_X3_nextOf_19 rfl rfl
theorem p_X3_nextOf_0_1 {X : xm_X} {P : List xm_M} {d : Nat} {h : xm_H} {l0 : Nat} {l1 : Int32} {l2 : Int32} {v0 : Nat} {n1 : Nat} (q0 : ¬ ((l1 * (10 : Int32)) + l2 < (0 : Int32))) (q1 : X.1[l0]? = some (.inr 3)) (q2 : h.2.2 l0 3 = some v0) (q3 : X.1[v0]? = some (.inl (0, n1))) (q4 : Int32.ofNat n1 ≤ (l1 * (10 : Int32)) + l2) : xm_E X P d co_X3_nextOf 0 [some (.ref l0), some (.int l1), some (.int l2), none] [] h (some (.int (-1 : Int32))) h := by
  refine xm_E_s r_X3_nextOf_0 rfl rfl ?_
  refine xm_E_s r_X3_nextOf_1 rfl rfl ?_
  refine xm_E_s r_X3_nextOf_2 rfl rfl ?_
  refine xm_E_s r_X3_nextOf_3 rfl rfl ?_
  refine xm_E_s r_X3_nextOf_4 rfl rfl ?_
  refine xm_E_s (ls1 := [some (.ref l0), some (.int l1), some (.int l2), some (.int ((l1 * (10 : Int32)) + l2))]) r_X3_nextOf_5 rfl rfl ?_
  refine xm_E_s r_X3_nextOf_6 rfl rfl ?_
  refine xm_E_s r_X3_nextOf_7 rfl rfl ?_
  refine xm_E_f q0 ?_
  refine xm_E_s r_X3_nextOf_8 rfl rfl ?_
  refine xm_E_s r_X3_nextOf_9 rfl rfl ?_
  refine xm_E_s r_X3_nextOf_10 rfl (xm_T_gr rfl q1 rfl rfl q2) ?_
  refine xm_E_s r_X3_nextOf_11 rfl (xm_T_alen rfl q3 (by decide)) ?_
  refine xm_E_s r_X3_nextOf_12 rfl rfl ?_
  refine xm_E_t q4 ?_
  refine xm_E_s r_X3_nextOf_18 rfl rfl ?_
  exact xm_E_iret r_X3_nextOf_19 rfl rfl
theorem p_X3_nextOf_0_2 {X : xm_X} {P : List xm_M} {d : Nat} {h : xm_H} {l0 : Nat} {l1 : Int32} {l2 : Int32} {v0 : Nat} {n1 : Nat} (q0 : ¬ ((l1 * (10 : Int32)) + l2 < (0 : Int32))) (q1 : X.1[l0]? = some (.inr 3)) (q2 : h.2.2 l0 3 = some v0) (q3 : X.1[v0]? = some (.inl (0, n1))) (q4 : ¬ (Int32.ofNat n1 ≤ (l1 * (10 : Int32)) + l2)) (q5 : ¬ ((l1 * (10 : Int32)) + l2 < 0 ∨ n1 ≤ ((l1 * (10 : Int32)) + l2).toNatClampNeg)) : xm_E X P d co_X3_nextOf 0 [some (.ref l0), some (.int l1), some (.int l2), none] [] h (some (.int (h.1 v0 (((l1 * (10 : Int32)) + l2).toNatClampNeg)))) h := by
  refine xm_E_s r_X3_nextOf_0 rfl rfl ?_
  refine xm_E_s r_X3_nextOf_1 rfl rfl ?_
  refine xm_E_s r_X3_nextOf_2 rfl rfl ?_
  refine xm_E_s r_X3_nextOf_3 rfl rfl ?_
  refine xm_E_s r_X3_nextOf_4 rfl rfl ?_
  refine xm_E_s (ls1 := [some (.ref l0), some (.int l1), some (.int l2), some (.int ((l1 * (10 : Int32)) + l2))]) r_X3_nextOf_5 rfl rfl ?_
  refine xm_E_s r_X3_nextOf_6 rfl rfl ?_
  refine xm_E_s r_X3_nextOf_7 rfl rfl ?_
  refine xm_E_f q0 ?_
  refine xm_E_s r_X3_nextOf_8 rfl rfl ?_
  refine xm_E_s r_X3_nextOf_9 rfl rfl ?_
  refine xm_E_s r_X3_nextOf_10 rfl (xm_T_gr rfl q1 rfl rfl q2) ?_
  refine xm_E_s r_X3_nextOf_11 rfl (xm_T_alen rfl q3 (by decide)) ?_
  refine xm_E_s r_X3_nextOf_12 rfl rfl ?_
  refine xm_E_f q4 ?_
  refine xm_E_s r_X3_nextOf_13 rfl rfl ?_
  refine xm_E_s r_X3_nextOf_14 rfl (xm_T_gr rfl q1 rfl rfl q2) ?_
  refine xm_E_s r_X3_nextOf_15 rfl rfl ?_
  refine xm_E_s r_X3_nextOf_16 rfl (xm_T_iald rfl q3 (by decide) q5) ?_
  refine xm_E_s r_X3_nextOf_17 rfl rfl ?_
  exact xm_E_iret r_X3_nextOf_19 rfl rfl
theorem r_X3_quickMove_0 : co_X3_quickMove[0]? = some ((0, .iload_n 2, 0, 0, 0, 0, 0, 0, []) : xm_I) := rfl
theorem r_X3_quickMove_1 : co_X3_quickMove[1]? = some ((1, .ifCond .lt 12, 0, 0, 7, 0, 0, 0, []) : xm_I) := rfl
theorem r_X3_quickMove_2 : co_X3_quickMove[2]? = some ((4, .aload_n 0, 0, 0, 0, 0, 0, 0, []) : xm_I) := rfl
theorem r_X3_quickMove_3 : co_X3_quickMove[3]? = some ((5, .aload_n 1, 0, 0, 0, 0, 0, 0, []) : xm_I) := rfl
theorem r_X3_quickMove_4 : co_X3_quickMove[4]? = some ((6, .invokevirtual 142, 973, 94, 2, 3, 0, 0, []) : xm_I) := rfl
theorem r_X3_quickMove_5 : co_X3_quickMove[5]? = some ((9, .iconst (-1), 0, 0, 0, 0, (-1), 0, []) : xm_I) := rfl
theorem r_X3_quickMove_6 : co_X3_quickMove[6]? = some ((10, .if_icmp .ne 5, 0, 0, 9, 0, 0, 0, []) : xm_I) := rfl
theorem r_X3_quickMove_7 : co_X3_quickMove[7]? = some ((13, .iconst (-1), 0, 0, 0, 0, (-1), 0, []) : xm_I) := rfl
theorem r_X3_quickMove_8 : co_X3_quickMove[8]? = some ((14, .ireturn, 0, 0, 0, 0, 0, 0, []) : xm_I) := rfl
theorem r_X3_quickMove_9 : co_X3_quickMove[9]? = some ((15, .iconst 0, 0, 0, 0, 0, 0, 0, []) : xm_I) := rfl
theorem r_X3_quickMove_10 : co_X3_quickMove[10]? = some ((16, .istore_n 3, 0, 0, 0, 0, 0, 0, []) : xm_I) := rfl
theorem r_X3_quickMove_11 : co_X3_quickMove[11]? = some ((17, .iconst 0, 0, 0, 0, 0, 0, 0, []) : xm_I) := rfl
theorem r_X3_quickMove_12 : co_X3_quickMove[12]? = some ((18, .istore 4, 0, 0, 0, 0, 0, 0, []) : xm_I) := rfl
theorem r_X3_quickMove_13 : co_X3_quickMove[13]? = some ((20, .iload 4, 0, 0, 0, 0, 0, 0, []) : xm_I) := rfl
theorem r_X3_quickMove_14 : co_X3_quickMove[14]? = some ((22, .sipush 640, 0, 0, 0, 0, 640, 0, []) : xm_I) := rfl
theorem r_X3_quickMove_15 : co_X3_quickMove[15]? = some ((25, .if_icmp .ge 51, 0, 0, 41, 0, 0, 0, []) : xm_I) := rfl
theorem r_X3_quickMove_16 : co_X3_quickMove[16]? = some ((28, .iload_n 3, 0, 0, 0, 0, 0, 0, []) : xm_I) := rfl
theorem r_X3_quickMove_17 : co_X3_quickMove[17]? = some ((29, .ifCond .lt 47, 0, 0, 41, 0, 0, 0, []) : xm_I) := rfl
theorem r_X3_quickMove_18 : co_X3_quickMove[18]? = some ((32, .iload_n 3, 0, 0, 0, 0, 0, 0, []) : xm_I) := rfl
theorem r_X3_quickMove_19 : co_X3_quickMove[19]? = some ((33, .sipush 640, 0, 0, 0, 0, 640, 0, []) : xm_I) := rfl
theorem r_X3_quickMove_20 : co_X3_quickMove[20]? = some ((36, .if_icmp .ge 40, 0, 0, 41, 0, 0, 0, []) : xm_I) := rfl
theorem r_X3_quickMove_21 : co_X3_quickMove[21]? = some ((39, .aload_n 0, 0, 0, 0, 0, 0, 0, []) : xm_I) := rfl
theorem r_X3_quickMove_22 : co_X3_quickMove[22]? = some ((40, .aload_n 1, 0, 0, 0, 0, 0, 0, []) : xm_I) := rfl
theorem r_X3_quickMove_23 : co_X3_quickMove[23]? = some ((41, .iload_n 3, 0, 0, 0, 0, 0, 0, []) : xm_I) := rfl
theorem r_X3_quickMove_24 : co_X3_quickMove[24]? = some ((42, .invokevirtual 146, 974, 99, 3, 3, 0, 0, []) : xm_I) := rfl
theorem r_X3_quickMove_25 : co_X3_quickMove[25]? = some ((45, .istore 5, 0, 0, 0, 0, 0, 0, []) : xm_I) := rfl
theorem r_X3_quickMove_26 : co_X3_quickMove[26]? = some ((47, .iload 5, 0, 0, 0, 0, 0, 0, []) : xm_I) := rfl
theorem r_X3_quickMove_27 : co_X3_quickMove[27]? = some ((49, .iconst (-1), 0, 0, 0, 0, (-1), 0, []) : xm_I) := rfl
theorem r_X3_quickMove_28 : co_X3_quickMove[28]? = some ((50, .if_icmp .eq 9, 0, 0, 32, 0, 0, 0, []) : xm_I) := rfl
theorem r_X3_quickMove_29 : co_X3_quickMove[29]? = some ((53, .iload 4, 0, 0, 0, 0, 0, 0, []) : xm_I) := rfl
theorem r_X3_quickMove_30 : co_X3_quickMove[30]? = some ((55, .iload_n 2, 0, 0, 0, 0, 0, 0, []) : xm_I) := rfl
theorem r_X3_quickMove_31 : co_X3_quickMove[31]? = some ((56, .if_icmp .ne 6, 0, 0, 34, 0, 0, 0, []) : xm_I) := rfl
theorem r_X3_quickMove_32 : co_X3_quickMove[32]? = some ((59, .iload 5, 0, 0, 0, 0, 0, 0, []) : xm_I) := rfl
theorem r_X3_quickMove_33 : co_X3_quickMove[33]? = some ((61, .ireturn, 0, 0, 0, 0, 0, 0, []) : xm_I) := rfl
theorem r_X3_quickMove_34 : co_X3_quickMove[34]? = some ((62, .aload_n 0, 0, 0, 0, 0, 0, 0, []) : xm_I) := rfl
theorem r_X3_quickMove_35 : co_X3_quickMove[35]? = some ((63, .iload_n 3, 0, 0, 0, 0, 0, 0, []) : xm_I) := rfl
theorem r_X3_quickMove_36 : co_X3_quickMove[36]? = some ((64, .iload 5, 0, 0, 0, 0, 0, 0, []) : xm_I) := rfl
theorem r_X3_quickMove_37 : co_X3_quickMove[37]? = some ((66, .invokevirtual 136, 960, 96, 3, 3, 0, 0, []) : xm_I) := rfl
theorem r_X3_quickMove_38 : co_X3_quickMove[38]? = some ((69, .istore_n 3, 0, 0, 0, 0, 0, 0, []) : xm_I) := rfl
theorem r_X3_quickMove_39 : co_X3_quickMove[39]? = some ((70, .iinc 4 1, 0, 0, 0, 0, 1, 0, []) : xm_I) := rfl
theorem r_X3_quickMove_40 : co_X3_quickMove[40]? = some ((73, .goto (-53), 0, 0, 13, 0, 0, 0, []) : xm_I) := rfl
theorem r_X3_quickMove_41 : co_X3_quickMove[41]? = some ((76, .iconst (-1), 0, 0, 0, 0, (-1), 0, []) : xm_I) := rfl
theorem r_X3_quickMove_42 : co_X3_quickMove[42]? = some ((77, .ireturn, 0, 0, 0, 0, 0, 0, []) : xm_I) := rfl
theorem p_X3_quickMove_0_0 {X : xm_X} {P : List xm_M} {d : Nat} {h : xm_H} {l0 : Nat} {l1 : Nat} {l2 : Int32} (q0 : l2 < (0 : Int32)) : xm_E X P d co_X3_quickMove 0 [some (.ref l0), some (.ref l1), some (.int l2), none, none, none] [] h (some (.int (-1 : Int32))) h := by
  refine xm_E_s r_X3_quickMove_0 rfl rfl ?_
  refine xm_E_s r_X3_quickMove_1 rfl rfl ?_
  refine xm_E_t q0 ?_
  refine xm_E_s r_X3_quickMove_7 rfl rfl ?_
  exact xm_E_iret r_X3_quickMove_8 rfl rfl
theorem p_X3_quickMove_0_1 {X : xm_X} {P : List xm_M} {d : Nat} {h : xm_H} {l0 : Nat} {l1 : Nat} {l2 : Int32} {h0 : xm_H} {r0 : Int32} (q0 : ¬ (l2 < (0 : Int32))) (q1 : xm_V X P d 94 [.ref l0, .ref l1] h (some (.int r0)) h0) (q2 : X.1[l0]? = some (.inr 3)) (q3 : r0 = (-1 : Int32)) : xm_E X P d co_X3_quickMove 0 [some (.ref l0), some (.ref l1), some (.int l2), none, none, none] [] h (some (.int (-1 : Int32))) h0 := by
  refine xm_E_s r_X3_quickMove_0 rfl rfl ?_
  refine xm_E_s r_X3_quickMove_1 rfl rfl ?_
  refine xm_E_f q0 ?_
  refine xm_E_s r_X3_quickMove_2 rfl rfl ?_
  refine xm_E_s r_X3_quickMove_3 rfl rfl ?_
  refine xm_E_cv [.ref l0, .ref l1] [] r_X3_quickMove_4 rfl rfl (Nat.le_of_ble_eq_true rfl) (xm_rc q2 (by decide)) rfl q1 ?_
  refine xm_E_s r_X3_quickMove_5 rfl rfl ?_
  refine xm_E_s r_X3_quickMove_6 rfl rfl ?_
  refine xm_E_t q3 ?_
  refine xm_E_s r_X3_quickMove_7 rfl rfl ?_
  exact xm_E_iret r_X3_quickMove_8 rfl rfl
theorem p_X3_quickMove_0_2 {X : xm_X} {P : List xm_M} {d : Nat} {h : xm_H} {l0 : Nat} {l1 : Nat} {l2 : Int32} {h0 : xm_H} {r0 : Int32} {ro : Option Value} {ho : xm_H} (q0 : ¬ (l2 < (0 : Int32))) (q1 : xm_V X P d 94 [.ref l0, .ref l1] h (some (.int r0)) h0) (q2 : X.1[l0]? = some (.inr 3)) (q3 : ¬ (r0 = (-1 : Int32))) (K : xm_E X P d co_X3_quickMove 13 [some (.ref l0), some (.ref l1), some (.int l2), some (.int (0 : Int32)), some (.int (0 : Int32)), none] [] h0 ro ho) : xm_E X P d co_X3_quickMove 0 [some (.ref l0), some (.ref l1), some (.int l2), none, none, none] [] h ro ho := by
  refine xm_E_s r_X3_quickMove_0 rfl rfl ?_
  refine xm_E_s r_X3_quickMove_1 rfl rfl ?_
  refine xm_E_f q0 ?_
  refine xm_E_s r_X3_quickMove_2 rfl rfl ?_
  refine xm_E_s r_X3_quickMove_3 rfl rfl ?_
  refine xm_E_cv [.ref l0, .ref l1] [] r_X3_quickMove_4 rfl rfl (Nat.le_of_ble_eq_true rfl) (xm_rc q2 (by decide)) rfl q1 ?_
  refine xm_E_s r_X3_quickMove_5 rfl rfl ?_
  refine xm_E_s r_X3_quickMove_6 rfl rfl ?_
  refine xm_E_f q3 ?_
  refine xm_E_s r_X3_quickMove_9 rfl rfl ?_
  refine xm_E_s (ls1 := [some (.ref l0), some (.ref l1), some (.int l2), some (.int (0 : Int32)), none, none]) r_X3_quickMove_10 rfl rfl ?_
  refine xm_E_s r_X3_quickMove_11 rfl rfl ?_
  refine xm_E_s (ls1 := [some (.ref l0), some (.ref l1), some (.int l2), some (.int (0 : Int32)), some (.int (0 : Int32)), none]) r_X3_quickMove_12 rfl rfl ?_
  exact K
theorem p_X3_quickMove_13_0 {X : xm_X} {P : List xm_M} {d : Nat} {h : xm_H} {l0 : Nat} {l1 : Nat} {l2 : Int32} {l3 : Int32} {l4 : Int32} {l5 : Option Value} (q0 : (640 : Int32) ≤ l4) : xm_E X P d co_X3_quickMove 13 [some (.ref l0), some (.ref l1), some (.int l2), some (.int l3), some (.int l4), l5] [] h (some (.int (-1 : Int32))) h := by
  refine xm_E_s r_X3_quickMove_13 rfl rfl ?_
  refine xm_E_s r_X3_quickMove_14 rfl rfl ?_
  refine xm_E_s r_X3_quickMove_15 rfl rfl ?_
  refine xm_E_t q0 ?_
  refine xm_E_s r_X3_quickMove_41 rfl rfl ?_
  exact xm_E_iret r_X3_quickMove_42 rfl rfl
theorem p_X3_quickMove_13_1 {X : xm_X} {P : List xm_M} {d : Nat} {h : xm_H} {l0 : Nat} {l1 : Nat} {l2 : Int32} {l3 : Int32} {l4 : Int32} {l5 : Option Value} (q0 : ¬ ((640 : Int32) ≤ l4)) (q1 : l3 < (0 : Int32)) : xm_E X P d co_X3_quickMove 13 [some (.ref l0), some (.ref l1), some (.int l2), some (.int l3), some (.int l4), l5] [] h (some (.int (-1 : Int32))) h := by
  refine xm_E_s r_X3_quickMove_13 rfl rfl ?_
  refine xm_E_s r_X3_quickMove_14 rfl rfl ?_
  refine xm_E_s r_X3_quickMove_15 rfl rfl ?_
  refine xm_E_f q0 ?_
  refine xm_E_s r_X3_quickMove_16 rfl rfl ?_
  refine xm_E_s r_X3_quickMove_17 rfl rfl ?_
  refine xm_E_t q1 ?_
  refine xm_E_s r_X3_quickMove_41 rfl rfl ?_
  exact xm_E_iret r_X3_quickMove_42 rfl rfl
theorem p_X3_quickMove_13_2 {X : xm_X} {P : List xm_M} {d : Nat} {h : xm_H} {l0 : Nat} {l1 : Nat} {l2 : Int32} {l3 : Int32} {l4 : Int32} {l5 : Option Value} (q0 : ¬ ((640 : Int32) ≤ l4)) (q1 : ¬ (l3 < (0 : Int32))) (q2 : (640 : Int32) ≤ l3) : xm_E X P d co_X3_quickMove 13 [some (.ref l0), some (.ref l1), some (.int l2), some (.int l3), some (.int l4), l5] [] h (some (.int (-1 : Int32))) h := by
  refine xm_E_s r_X3_quickMove_13 rfl rfl ?_
  refine xm_E_s r_X3_quickMove_14 rfl rfl ?_
  refine xm_E_s r_X3_quickMove_15 rfl rfl ?_
  refine xm_E_f q0 ?_
  refine xm_E_s r_X3_quickMove_16 rfl rfl ?_
  refine xm_E_s r_X3_quickMove_17 rfl rfl ?_
  refine xm_E_f q1 ?_
  refine xm_E_s r_X3_quickMove_18 rfl rfl ?_
  refine xm_E_s r_X3_quickMove_19 rfl rfl ?_
  refine xm_E_s r_X3_quickMove_20 rfl rfl ?_
  refine xm_E_t q2 ?_
  refine xm_E_s r_X3_quickMove_41 rfl rfl ?_
  exact xm_E_iret r_X3_quickMove_42 rfl rfl
theorem p_X3_quickMove_13_3 {X : xm_X} {P : List xm_M} {d : Nat} {h : xm_H} {l0 : Nat} {l1 : Nat} {l2 : Int32} {l3 : Int32} {l4 : Int32} {l5 : Option Value} {h0 : xm_H} {r0 : Int32} (q0 : ¬ ((640 : Int32) ≤ l4)) (q1 : ¬ (l3 < (0 : Int32))) (q2 : ¬ ((640 : Int32) ≤ l3)) (q3 : xm_V X P d 99 [.ref l0, .ref l1, .int l3] h (some (.int r0)) h0) (q4 : X.1[l0]? = some (.inr 3)) (q5 : r0 = (-1 : Int32)) : xm_E X P d co_X3_quickMove 13 [some (.ref l0), some (.ref l1), some (.int l2), some (.int l3), some (.int l4), l5] [] h (some (.int r0)) h0 := by
  refine xm_E_s r_X3_quickMove_13 rfl rfl ?_
  refine xm_E_s r_X3_quickMove_14 rfl rfl ?_
  refine xm_E_s r_X3_quickMove_15 rfl rfl ?_
  refine xm_E_f q0 ?_
  refine xm_E_s r_X3_quickMove_16 rfl rfl ?_
  refine xm_E_s r_X3_quickMove_17 rfl rfl ?_
  refine xm_E_f q1 ?_
  refine xm_E_s r_X3_quickMove_18 rfl rfl ?_
  refine xm_E_s r_X3_quickMove_19 rfl rfl ?_
  refine xm_E_s r_X3_quickMove_20 rfl rfl ?_
  refine xm_E_f q2 ?_
  refine xm_E_s r_X3_quickMove_21 rfl rfl ?_
  refine xm_E_s r_X3_quickMove_22 rfl rfl ?_
  refine xm_E_s r_X3_quickMove_23 rfl rfl ?_
  refine xm_E_cv [.ref l0, .ref l1, .int l3] [] r_X3_quickMove_24 rfl rfl (Nat.le_of_ble_eq_true rfl) (xm_rc q4 (by decide)) rfl q3 ?_
  refine xm_E_s (ls1 := [some (.ref l0), some (.ref l1), some (.int l2), some (.int l3), some (.int l4), some (.int r0)]) r_X3_quickMove_25 rfl rfl ?_
  refine xm_E_s r_X3_quickMove_26 rfl rfl ?_
  refine xm_E_s r_X3_quickMove_27 rfl rfl ?_
  refine xm_E_s r_X3_quickMove_28 rfl rfl ?_
  refine xm_E_t q5 ?_
  refine xm_E_s r_X3_quickMove_32 rfl rfl ?_
  exact xm_E_iret r_X3_quickMove_33 rfl rfl
theorem p_X3_quickMove_13_4 {X : xm_X} {P : List xm_M} {d : Nat} {h : xm_H} {l0 : Nat} {l1 : Nat} {l2 : Int32} {l3 : Int32} {l4 : Int32} {l5 : Option Value} {h0 : xm_H} {r0 : Int32} (q0 : ¬ ((640 : Int32) ≤ l4)) (q1 : ¬ (l3 < (0 : Int32))) (q2 : ¬ ((640 : Int32) ≤ l3)) (q3 : xm_V X P d 99 [.ref l0, .ref l1, .int l3] h (some (.int r0)) h0) (q4 : X.1[l0]? = some (.inr 3)) (q5 : ¬ (r0 = (-1 : Int32))) (q6 : l4 = l2) : xm_E X P d co_X3_quickMove 13 [some (.ref l0), some (.ref l1), some (.int l2), some (.int l3), some (.int l4), l5] [] h (some (.int r0)) h0 := by
  refine xm_E_s r_X3_quickMove_13 rfl rfl ?_
  refine xm_E_s r_X3_quickMove_14 rfl rfl ?_
  refine xm_E_s r_X3_quickMove_15 rfl rfl ?_
  refine xm_E_f q0 ?_
  refine xm_E_s r_X3_quickMove_16 rfl rfl ?_
  refine xm_E_s r_X3_quickMove_17 rfl rfl ?_
  refine xm_E_f q1 ?_
  refine xm_E_s r_X3_quickMove_18 rfl rfl ?_
  refine xm_E_s r_X3_quickMove_19 rfl rfl ?_
  refine xm_E_s r_X3_quickMove_20 rfl rfl ?_
  refine xm_E_f q2 ?_
  refine xm_E_s r_X3_quickMove_21 rfl rfl ?_
  refine xm_E_s r_X3_quickMove_22 rfl rfl ?_
  refine xm_E_s r_X3_quickMove_23 rfl rfl ?_
  refine xm_E_cv [.ref l0, .ref l1, .int l3] [] r_X3_quickMove_24 rfl rfl (Nat.le_of_ble_eq_true rfl) (xm_rc q4 (by decide)) rfl q3 ?_
  refine xm_E_s (ls1 := [some (.ref l0), some (.ref l1), some (.int l2), some (.int l3), some (.int l4), some (.int r0)]) r_X3_quickMove_25 rfl rfl ?_
  refine xm_E_s r_X3_quickMove_26 rfl rfl ?_
  refine xm_E_s r_X3_quickMove_27 rfl rfl ?_
  refine xm_E_s r_X3_quickMove_28 rfl rfl ?_
  refine xm_E_f q5 ?_
  refine xm_E_s r_X3_quickMove_29 rfl rfl ?_
  refine xm_E_s r_X3_quickMove_30 rfl rfl ?_
  refine xm_E_s r_X3_quickMove_31 rfl rfl ?_
  refine xm_E_t q6 ?_
  refine xm_E_s r_X3_quickMove_32 rfl rfl ?_
  exact xm_E_iret r_X3_quickMove_33 rfl rfl
theorem p_X3_quickMove_13_5 {X : xm_X} {P : List xm_M} {d : Nat} {h : xm_H} {l0 : Nat} {l1 : Nat} {l2 : Int32} {l3 : Int32} {l4 : Int32} {l5 : Option Value} {h0 : xm_H} {r0 : Int32} {h1 : xm_H} {r1 : Int32} {ro : Option Value} {ho : xm_H} (q0 : ¬ ((640 : Int32) ≤ l4)) (q1 : ¬ (l3 < (0 : Int32))) (q2 : ¬ ((640 : Int32) ≤ l3)) (q3 : xm_V X P d 99 [.ref l0, .ref l1, .int l3] h (some (.int r0)) h0) (q4 : X.1[l0]? = some (.inr 3)) (q5 : ¬ (r0 = (-1 : Int32))) (q6 : ¬ (l4 = l2)) (q7 : xm_V X P d 96 [.ref l0, .int l3, .int r0] h0 (some (.int r1)) h1) (K : xm_E X P d co_X3_quickMove 13 [some (.ref l0), some (.ref l1), some (.int l2), some (.int r1), some (.int (l4 + (1 : Int32))), some (.int r0)] [] h1 ro ho) : xm_E X P d co_X3_quickMove 13 [some (.ref l0), some (.ref l1), some (.int l2), some (.int l3), some (.int l4), l5] [] h ro ho := by
  refine xm_E_s r_X3_quickMove_13 rfl rfl ?_
  refine xm_E_s r_X3_quickMove_14 rfl rfl ?_
  refine xm_E_s r_X3_quickMove_15 rfl rfl ?_
  refine xm_E_f q0 ?_
  refine xm_E_s r_X3_quickMove_16 rfl rfl ?_
  refine xm_E_s r_X3_quickMove_17 rfl rfl ?_
  refine xm_E_f q1 ?_
  refine xm_E_s r_X3_quickMove_18 rfl rfl ?_
  refine xm_E_s r_X3_quickMove_19 rfl rfl ?_
  refine xm_E_s r_X3_quickMove_20 rfl rfl ?_
  refine xm_E_f q2 ?_
  refine xm_E_s r_X3_quickMove_21 rfl rfl ?_
  refine xm_E_s r_X3_quickMove_22 rfl rfl ?_
  refine xm_E_s r_X3_quickMove_23 rfl rfl ?_
  refine xm_E_cv [.ref l0, .ref l1, .int l3] [] r_X3_quickMove_24 rfl rfl (Nat.le_of_ble_eq_true rfl) (xm_rc q4 (by decide)) rfl q3 ?_
  refine xm_E_s (ls1 := [some (.ref l0), some (.ref l1), some (.int l2), some (.int l3), some (.int l4), some (.int r0)]) r_X3_quickMove_25 rfl rfl ?_
  refine xm_E_s r_X3_quickMove_26 rfl rfl ?_
  refine xm_E_s r_X3_quickMove_27 rfl rfl ?_
  refine xm_E_s r_X3_quickMove_28 rfl rfl ?_
  refine xm_E_f q5 ?_
  refine xm_E_s r_X3_quickMove_29 rfl rfl ?_
  refine xm_E_s r_X3_quickMove_30 rfl rfl ?_
  refine xm_E_s r_X3_quickMove_31 rfl rfl ?_
  refine xm_E_f q6 ?_
  refine xm_E_s r_X3_quickMove_34 rfl rfl ?_
  refine xm_E_s r_X3_quickMove_35 rfl rfl ?_
  refine xm_E_s r_X3_quickMove_36 rfl rfl ?_
  refine xm_E_cv [.ref l0, .int l3, .int r0] [] r_X3_quickMove_37 rfl rfl (Nat.le_of_ble_eq_true rfl) (xm_rc q4 (by decide)) rfl q7 ?_
  refine xm_E_s (ls1 := [some (.ref l0), some (.ref l1), some (.int l2), some (.int r1), some (.int l4), some (.int r0)]) r_X3_quickMove_38 rfl rfl ?_
  refine xm_E_s (ls1 := [some (.ref l0), some (.ref l1), some (.int l2), some (.int r1), some (.int (l4 + (1 : Int32))), some (.int r0)]) r_X3_quickMove_39 rfl rfl ?_
  refine xm_E_s r_X3_quickMove_40 rfl rfl ?_
  exact K
theorem r_X3_firstCheapMove_0 : co_X3_firstCheapMove[0]? = some ((0, .iconst 0, 0, 0, 0, 0, 0, 0, []) : xm_I) := rfl
theorem r_X3_firstCheapMove_1 : co_X3_firstCheapMove[1]? = some ((1, .istore_n 3, 0, 0, 0, 0, 0, 0, []) : xm_I) := rfl
theorem r_X3_firstCheapMove_2 : co_X3_firstCheapMove[2]? = some ((2, .iload_n 3, 0, 0, 0, 0, 0, 0, []) : xm_I) := rfl
theorem r_X3_firstCheapMove_3 : co_X3_firstCheapMove[3]? = some ((3, .bipush 10, 0, 0, 0, 0, 10, 0, []) : xm_I) := rfl
theorem r_X3_firstCheapMove_4 : co_X3_firstCheapMove[4]? = some ((5, .if_icmp .ge 54, 0, 0, 32, 0, 0, 0, []) : xm_I) := rfl
theorem r_X3_firstCheapMove_5 : co_X3_firstCheapMove[5]? = some ((8, .aload_n 0, 0, 0, 0, 0, 0, 0, []) : xm_I) := rfl
theorem r_X3_firstCheapMove_6 : co_X3_firstCheapMove[6]? = some ((9, .iload_n 2, 0, 0, 0, 0, 0, 0, []) : xm_I) := rfl
theorem r_X3_firstCheapMove_7 : co_X3_firstCheapMove[7]? = some ((10, .iload_n 3, 0, 0, 0, 0, 0, 0, []) : xm_I) := rfl
theorem r_X3_firstCheapMove_8 : co_X3_firstCheapMove[8]? = some ((11, .invokevirtual 136, 960, 96, 3, 3, 0, 0, []) : xm_I) := rfl
theorem r_X3_firstCheapMove_9 : co_X3_firstCheapMove[9]? = some ((14, .istore 4, 0, 0, 0, 0, 0, 0, []) : xm_I) := rfl
theorem r_X3_firstCheapMove_10 : co_X3_firstCheapMove[10]? = some ((16, .iload 4, 0, 0, 0, 0, 0, 0, []) : xm_I) := rfl
theorem r_X3_firstCheapMove_11 : co_X3_firstCheapMove[11]? = some ((18, .ifCond .lt 35, 0, 0, 30, 0, 0, 0, []) : xm_I) := rfl
theorem r_X3_firstCheapMove_12 : co_X3_firstCheapMove[12]? = some ((21, .iload 4, 0, 0, 0, 0, 0, 0, []) : xm_I) := rfl
theorem r_X3_firstCheapMove_13 : co_X3_firstCheapMove[13]? = some ((23, .sipush 640, 0, 0, 0, 0, 640, 0, []) : xm_I) := rfl
theorem r_X3_firstCheapMove_14 : co_X3_firstCheapMove[14]? = some ((26, .if_icmp .ge 27, 0, 0, 30, 0, 0, 0, []) : xm_I) := rfl
theorem r_X3_firstCheapMove_15 : co_X3_firstCheapMove[15]? = some ((29, .aload_n 0, 0, 0, 0, 0, 0, 0, []) : xm_I) := rfl
theorem r_X3_firstCheapMove_16 : co_X3_firstCheapMove[16]? = some ((30, .getfield 33, 347, 3, 7, 2, 0, 0, []) : xm_I) := rfl
theorem r_X3_firstCheapMove_17 : co_X3_firstCheapMove[17]? = some ((33, .iload 4, 0, 0, 0, 0, 0, 0, []) : xm_I) := rfl
theorem r_X3_firstCheapMove_18 : co_X3_firstCheapMove[18]? = some ((35, .iaload, 0, 0, 0, 0, 0, 0, []) : xm_I) := rfl
theorem r_X3_firstCheapMove_19 : co_X3_firstCheapMove[19]? = some ((36, .aload_n 1, 0, 0, 0, 0, 0, 0, []) : xm_I) := rfl
theorem r_X3_firstCheapMove_20 : co_X3_firstCheapMove[20]? = some ((37, .iload_n 3, 0, 0, 0, 0, 0, 0, []) : xm_I) := rfl
theorem r_X3_firstCheapMove_21 : co_X3_firstCheapMove[21]? = some ((38, .invokevirtual 139, 964, 54, 2, 0, 0, 0, []) : xm_I) := rfl
theorem r_X3_firstCheapMove_22 : co_X3_firstCheapMove[22]? = some ((41, .iadd, 0, 0, 0, 0, 0, 0, []) : xm_I) := rfl
theorem r_X3_firstCheapMove_23 : co_X3_firstCheapMove[23]? = some ((42, .aload_n 0, 0, 0, 0, 0, 0, 0, []) : xm_I) := rfl
theorem r_X3_firstCheapMove_24 : co_X3_firstCheapMove[24]? = some ((43, .getfield 33, 347, 3, 7, 2, 0, 0, []) : xm_I) := rfl
theorem r_X3_firstCheapMove_25 : co_X3_firstCheapMove[25]? = some ((46, .iload_n 2, 0, 0, 0, 0, 0, 0, []) : xm_I) := rfl
theorem r_X3_firstCheapMove_26 : co_X3_firstCheapMove[26]? = some ((47, .iaload, 0, 0, 0, 0, 0, 0, []) : xm_I) := rfl
theorem r_X3_firstCheapMove_27 : co_X3_firstCheapMove[27]? = some ((48, .if_icmp .ne 5, 0, 0, 30, 0, 0, 0, []) : xm_I) := rfl
theorem r_X3_firstCheapMove_28 : co_X3_firstCheapMove[28]? = some ((51, .iload_n 3, 0, 0, 0, 0, 0, 0, []) : xm_I) := rfl
theorem r_X3_firstCheapMove_29 : co_X3_firstCheapMove[29]? = some ((52, .ireturn, 0, 0, 0, 0, 0, 0, []) : xm_I) := rfl
theorem r_X3_firstCheapMove_30 : co_X3_firstCheapMove[30]? = some ((53, .iinc 3 1, 0, 0, 0, 0, 1, 0, []) : xm_I) := rfl
theorem r_X3_firstCheapMove_31 : co_X3_firstCheapMove[31]? = some ((56, .goto (-54), 0, 0, 2, 0, 0, 0, []) : xm_I) := rfl
theorem r_X3_firstCheapMove_32 : co_X3_firstCheapMove[32]? = some ((59, .iconst (-1), 0, 0, 0, 0, (-1), 0, []) : xm_I) := rfl
theorem r_X3_firstCheapMove_33 : co_X3_firstCheapMove[33]? = some ((60, .ireturn, 0, 0, 0, 0, 0, 0, []) : xm_I) := rfl
theorem p_X3_firstCheapMove_0_0 {X : xm_X} {P : List xm_M} {d : Nat} {h : xm_H} {l0 : Nat} {l1 : Nat} {l2 : Int32} {ro : Option Value} {ho : xm_H}  (K : xm_E X P d co_X3_firstCheapMove 2 [some (.ref l0), some (.ref l1), some (.int l2), some (.int (0 : Int32)), none] [] h ro ho) : xm_E X P d co_X3_firstCheapMove 0 [some (.ref l0), some (.ref l1), some (.int l2), none, none] [] h ro ho := by
  refine xm_E_s r_X3_firstCheapMove_0 rfl rfl ?_
  refine xm_E_s (ls1 := [some (.ref l0), some (.ref l1), some (.int l2), some (.int (0 : Int32)), none]) r_X3_firstCheapMove_1 rfl rfl ?_
  exact K
theorem p_X3_firstCheapMove_2_0 {X : xm_X} {P : List xm_M} {d : Nat} {h : xm_H} {l0 : Nat} {l1 : Nat} {l2 : Int32} {l3 : Int32} {l4 : Option Value} (q0 : (10 : Int32) ≤ l3) : xm_E X P d co_X3_firstCheapMove 2 [some (.ref l0), some (.ref l1), some (.int l2), some (.int l3), l4] [] h (some (.int (-1 : Int32))) h := by
  refine xm_E_s r_X3_firstCheapMove_2 rfl rfl ?_
  refine xm_E_s r_X3_firstCheapMove_3 rfl rfl ?_
  refine xm_E_s r_X3_firstCheapMove_4 rfl rfl ?_
  refine xm_E_t q0 ?_
  refine xm_E_s r_X3_firstCheapMove_32 rfl rfl ?_
  exact xm_E_iret r_X3_firstCheapMove_33 rfl rfl
theorem p_X3_firstCheapMove_2_1 {X : xm_X} {P : List xm_M} {d : Nat} {h : xm_H} {l0 : Nat} {l1 : Nat} {l2 : Int32} {l3 : Int32} {l4 : Option Value} {h0 : xm_H} {r0 : Int32} {ro : Option Value} {ho : xm_H} (q0 : ¬ ((10 : Int32) ≤ l3)) (q1 : xm_V X P d 96 [.ref l0, .int l2, .int l3] h (some (.int r0)) h0) (q2 : X.1[l0]? = some (.inr 3)) (q3 : r0 < (0 : Int32)) (K : xm_E X P d co_X3_firstCheapMove 2 [some (.ref l0), some (.ref l1), some (.int l2), some (.int (l3 + (1 : Int32))), some (.int r0)] [] h0 ro ho) : xm_E X P d co_X3_firstCheapMove 2 [some (.ref l0), some (.ref l1), some (.int l2), some (.int l3), l4] [] h ro ho := by
  refine xm_E_s r_X3_firstCheapMove_2 rfl rfl ?_
  refine xm_E_s r_X3_firstCheapMove_3 rfl rfl ?_
  refine xm_E_s r_X3_firstCheapMove_4 rfl rfl ?_
  refine xm_E_f q0 ?_
  refine xm_E_s r_X3_firstCheapMove_5 rfl rfl ?_
  refine xm_E_s r_X3_firstCheapMove_6 rfl rfl ?_
  refine xm_E_s r_X3_firstCheapMove_7 rfl rfl ?_
  refine xm_E_cv [.ref l0, .int l2, .int l3] [] r_X3_firstCheapMove_8 rfl rfl (Nat.le_of_ble_eq_true rfl) (xm_rc q2 (by decide)) rfl q1 ?_
  refine xm_E_s (ls1 := [some (.ref l0), some (.ref l1), some (.int l2), some (.int l3), some (.int r0)]) r_X3_firstCheapMove_9 rfl rfl ?_
  refine xm_E_s r_X3_firstCheapMove_10 rfl rfl ?_
  refine xm_E_s r_X3_firstCheapMove_11 rfl rfl ?_
  refine xm_E_t q3 ?_
  refine xm_E_s (ls1 := [some (.ref l0), some (.ref l1), some (.int l2), some (.int (l3 + (1 : Int32))), some (.int r0)]) r_X3_firstCheapMove_30 rfl rfl ?_
  refine xm_E_s r_X3_firstCheapMove_31 rfl rfl ?_
  exact K
theorem p_X3_firstCheapMove_2_2 {X : xm_X} {P : List xm_M} {d : Nat} {h : xm_H} {l0 : Nat} {l1 : Nat} {l2 : Int32} {l3 : Int32} {l4 : Option Value} {h0 : xm_H} {r0 : Int32} {ro : Option Value} {ho : xm_H} (q0 : ¬ ((10 : Int32) ≤ l3)) (q1 : xm_V X P d 96 [.ref l0, .int l2, .int l3] h (some (.int r0)) h0) (q2 : X.1[l0]? = some (.inr 3)) (q3 : ¬ (r0 < (0 : Int32))) (q4 : (640 : Int32) ≤ r0) (K : xm_E X P d co_X3_firstCheapMove 2 [some (.ref l0), some (.ref l1), some (.int l2), some (.int (l3 + (1 : Int32))), some (.int r0)] [] h0 ro ho) : xm_E X P d co_X3_firstCheapMove 2 [some (.ref l0), some (.ref l1), some (.int l2), some (.int l3), l4] [] h ro ho := by
  refine xm_E_s r_X3_firstCheapMove_2 rfl rfl ?_
  refine xm_E_s r_X3_firstCheapMove_3 rfl rfl ?_
  refine xm_E_s r_X3_firstCheapMove_4 rfl rfl ?_
  refine xm_E_f q0 ?_
  refine xm_E_s r_X3_firstCheapMove_5 rfl rfl ?_
  refine xm_E_s r_X3_firstCheapMove_6 rfl rfl ?_
  refine xm_E_s r_X3_firstCheapMove_7 rfl rfl ?_
  refine xm_E_cv [.ref l0, .int l2, .int l3] [] r_X3_firstCheapMove_8 rfl rfl (Nat.le_of_ble_eq_true rfl) (xm_rc q2 (by decide)) rfl q1 ?_
  refine xm_E_s (ls1 := [some (.ref l0), some (.ref l1), some (.int l2), some (.int l3), some (.int r0)]) r_X3_firstCheapMove_9 rfl rfl ?_
  refine xm_E_s r_X3_firstCheapMove_10 rfl rfl ?_
  refine xm_E_s r_X3_firstCheapMove_11 rfl rfl ?_
  refine xm_E_f q3 ?_
  refine xm_E_s r_X3_firstCheapMove_12 rfl rfl ?_
  refine xm_E_s r_X3_firstCheapMove_13 rfl rfl ?_
  refine xm_E_s r_X3_firstCheapMove_14 rfl rfl ?_
  refine xm_E_t q4 ?_
  refine xm_E_s (ls1 := [some (.ref l0), some (.ref l1), some (.int l2), some (.int (l3 + (1 : Int32))), some (.int r0)]) r_X3_firstCheapMove_30 rfl rfl ?_
  refine xm_E_s r_X3_firstCheapMove_31 rfl rfl ?_
  exact K
theorem p_X3_firstCheapMove_2_3 {X : xm_X} {P : List xm_M} {d : Nat} {h : xm_H} {l0 : Nat} {l1 : Nat} {l2 : Int32} {l3 : Int32} {l4 : Option Value} {h0 : xm_H} {r0 : Int32} {v1 : Nat} {n2 : Nat} {h3 : xm_H} {r3 : Int32} {v4 : Nat} {n5 : Nat} (q0 : ¬ ((10 : Int32) ≤ l3)) (q1 : xm_V X P d 96 [.ref l0, .int l2, .int l3] h (some (.int r0)) h0) (q2 : X.1[l0]? = some (.inr 3)) (q3 : ¬ (r0 < (0 : Int32))) (q4 : ¬ ((640 : Int32) ≤ r0)) (q5 : h0.2.2 l0 7 = some v1) (q6 : X.1[v1]? = some (.inl (0, n2))) (q7 : ¬ (r0 < 0 ∨ n2 ≤ r0.toNatClampNeg)) (q8 : xm_V X P d 54 [.ref l1, .int l3] h0 (some (.int r3)) h3) (q9 : X.1[l1]? = some (.inr 0)) (q10 : h3.2.2 l0 7 = some v4) (q11 : X.1[v4]? = some (.inl (0, n5))) (q12 : ¬ (l2 < 0 ∨ n5 ≤ l2.toNatClampNeg)) (q13 : (h0.1 v1 r0.toNatClampNeg) + r3 = h3.1 v4 l2.toNatClampNeg) : xm_E X P d co_X3_firstCheapMove 2 [some (.ref l0), some (.ref l1), some (.int l2), some (.int l3), l4] [] h (some (.int l3)) h3 := by
  refine xm_E_s r_X3_firstCheapMove_2 rfl rfl ?_
  refine xm_E_s r_X3_firstCheapMove_3 rfl rfl ?_
  refine xm_E_s r_X3_firstCheapMove_4 rfl rfl ?_
  refine xm_E_f q0 ?_
  refine xm_E_s r_X3_firstCheapMove_5 rfl rfl ?_
  refine xm_E_s r_X3_firstCheapMove_6 rfl rfl ?_
  refine xm_E_s r_X3_firstCheapMove_7 rfl rfl ?_
  refine xm_E_cv [.ref l0, .int l2, .int l3] [] r_X3_firstCheapMove_8 rfl rfl (Nat.le_of_ble_eq_true rfl) (xm_rc q2 (by decide)) rfl q1 ?_
  refine xm_E_s (ls1 := [some (.ref l0), some (.ref l1), some (.int l2), some (.int l3), some (.int r0)]) r_X3_firstCheapMove_9 rfl rfl ?_
  refine xm_E_s r_X3_firstCheapMove_10 rfl rfl ?_
  refine xm_E_s r_X3_firstCheapMove_11 rfl rfl ?_
  refine xm_E_f q3 ?_
  refine xm_E_s r_X3_firstCheapMove_12 rfl rfl ?_
  refine xm_E_s r_X3_firstCheapMove_13 rfl rfl ?_
  refine xm_E_s r_X3_firstCheapMove_14 rfl rfl ?_
  refine xm_E_f q4 ?_
  refine xm_E_s r_X3_firstCheapMove_15 rfl rfl ?_
  refine xm_E_s r_X3_firstCheapMove_16 rfl (xm_T_gr rfl q2 rfl rfl q5) ?_
  refine xm_E_s r_X3_firstCheapMove_17 rfl rfl ?_
  refine xm_E_s r_X3_firstCheapMove_18 rfl (xm_T_iald rfl q6 (by decide) q7) ?_
  refine xm_E_s r_X3_firstCheapMove_19 rfl rfl ?_
  refine xm_E_s r_X3_firstCheapMove_20 rfl rfl ?_
  refine xm_E_cv [.ref l1, .int l3] [.int (h0.1 v1 r0.toNatClampNeg)] r_X3_firstCheapMove_21 rfl rfl (Nat.le_of_ble_eq_true rfl) (xm_rc q9 (by decide)) rfl q8 ?_
  refine xm_E_s r_X3_firstCheapMove_22 rfl rfl ?_
  refine xm_E_s r_X3_firstCheapMove_23 rfl rfl ?_
  refine xm_E_s r_X3_firstCheapMove_24 rfl (xm_T_gr rfl q2 rfl rfl q10) ?_
  refine xm_E_s r_X3_firstCheapMove_25 rfl rfl ?_
  refine xm_E_s r_X3_firstCheapMove_26 rfl (xm_T_iald rfl q11 (by decide) q12) ?_
  refine xm_E_s r_X3_firstCheapMove_27 rfl rfl ?_
  refine xm_E_t q13 ?_
  refine xm_E_s r_X3_firstCheapMove_28 rfl rfl ?_
  exact xm_E_iret r_X3_firstCheapMove_29 rfl rfl
theorem p_X3_firstCheapMove_2_4 {X : xm_X} {P : List xm_M} {d : Nat} {h : xm_H} {l0 : Nat} {l1 : Nat} {l2 : Int32} {l3 : Int32} {l4 : Option Value} {h0 : xm_H} {r0 : Int32} {v1 : Nat} {n2 : Nat} {h3 : xm_H} {r3 : Int32} {v4 : Nat} {n5 : Nat} {ro : Option Value} {ho : xm_H} (q0 : ¬ ((10 : Int32) ≤ l3)) (q1 : xm_V X P d 96 [.ref l0, .int l2, .int l3] h (some (.int r0)) h0) (q2 : X.1[l0]? = some (.inr 3)) (q3 : ¬ (r0 < (0 : Int32))) (q4 : ¬ ((640 : Int32) ≤ r0)) (q5 : h0.2.2 l0 7 = some v1) (q6 : X.1[v1]? = some (.inl (0, n2))) (q7 : ¬ (r0 < 0 ∨ n2 ≤ r0.toNatClampNeg)) (q8 : xm_V X P d 54 [.ref l1, .int l3] h0 (some (.int r3)) h3) (q9 : X.1[l1]? = some (.inr 0)) (q10 : h3.2.2 l0 7 = some v4) (q11 : X.1[v4]? = some (.inl (0, n5))) (q12 : ¬ (l2 < 0 ∨ n5 ≤ l2.toNatClampNeg)) (q13 : ¬ ((h0.1 v1 r0.toNatClampNeg) + r3 = h3.1 v4 l2.toNatClampNeg)) (K : xm_E X P d co_X3_firstCheapMove 2 [some (.ref l0), some (.ref l1), some (.int l2), some (.int (l3 + (1 : Int32))), some (.int r0)] [] h3 ro ho) : xm_E X P d co_X3_firstCheapMove 2 [some (.ref l0), some (.ref l1), some (.int l2), some (.int l3), l4] [] h ro ho := by
  refine xm_E_s r_X3_firstCheapMove_2 rfl rfl ?_
  refine xm_E_s r_X3_firstCheapMove_3 rfl rfl ?_
  refine xm_E_s r_X3_firstCheapMove_4 rfl rfl ?_
  refine xm_E_f q0 ?_
  refine xm_E_s r_X3_firstCheapMove_5 rfl rfl ?_
  refine xm_E_s r_X3_firstCheapMove_6 rfl rfl ?_
  refine xm_E_s r_X3_firstCheapMove_7 rfl rfl ?_
  refine xm_E_cv [.ref l0, .int l2, .int l3] [] r_X3_firstCheapMove_8 rfl rfl (Nat.le_of_ble_eq_true rfl) (xm_rc q2 (by decide)) rfl q1 ?_
  refine xm_E_s (ls1 := [some (.ref l0), some (.ref l1), some (.int l2), some (.int l3), some (.int r0)]) r_X3_firstCheapMove_9 rfl rfl ?_
  refine xm_E_s r_X3_firstCheapMove_10 rfl rfl ?_
  refine xm_E_s r_X3_firstCheapMove_11 rfl rfl ?_
  refine xm_E_f q3 ?_
  refine xm_E_s r_X3_firstCheapMove_12 rfl rfl ?_
  refine xm_E_s r_X3_firstCheapMove_13 rfl rfl ?_
  refine xm_E_s r_X3_firstCheapMove_14 rfl rfl ?_
  refine xm_E_f q4 ?_
  refine xm_E_s r_X3_firstCheapMove_15 rfl rfl ?_
  refine xm_E_s r_X3_firstCheapMove_16 rfl (xm_T_gr rfl q2 rfl rfl q5) ?_
  refine xm_E_s r_X3_firstCheapMove_17 rfl rfl ?_
  refine xm_E_s r_X3_firstCheapMove_18 rfl (xm_T_iald rfl q6 (by decide) q7) ?_
  refine xm_E_s r_X3_firstCheapMove_19 rfl rfl ?_
  refine xm_E_s r_X3_firstCheapMove_20 rfl rfl ?_
  refine xm_E_cv [.ref l1, .int l3] [.int (h0.1 v1 r0.toNatClampNeg)] r_X3_firstCheapMove_21 rfl rfl (Nat.le_of_ble_eq_true rfl) (xm_rc q9 (by decide)) rfl q8 ?_
  refine xm_E_s r_X3_firstCheapMove_22 rfl rfl ?_
  refine xm_E_s r_X3_firstCheapMove_23 rfl rfl ?_
  refine xm_E_s r_X3_firstCheapMove_24 rfl (xm_T_gr rfl q2 rfl rfl q10) ?_
  refine xm_E_s r_X3_firstCheapMove_25 rfl rfl ?_
  refine xm_E_s r_X3_firstCheapMove_26 rfl (xm_T_iald rfl q11 (by decide) q12) ?_
  refine xm_E_s r_X3_firstCheapMove_27 rfl rfl ?_
  refine xm_E_f q13 ?_
  refine xm_E_s (ls1 := [some (.ref l0), some (.ref l1), some (.int l2), some (.int (l3 + (1 : Int32))), some (.int r0)]) r_X3_firstCheapMove_30 rfl rfl ?_
  refine xm_E_s r_X3_firstCheapMove_31 rfl rfl ?_
  exact K
theorem r_X3_firstSized_0 : co_X3_firstSized[0]? = some ((0, .iconst 0, 0, 0, 0, 0, 0, 0, []) : xm_I) := rfl
theorem r_X3_firstSized_1 : co_X3_firstSized[1]? = some ((1, .istore_n 3, 0, 0, 0, 0, 0, 0, []) : xm_I) := rfl
theorem r_X3_firstSized_2 : co_X3_firstSized[2]? = some ((2, .iload_n 3, 0, 0, 0, 0, 0, 0, []) : xm_I) := rfl
theorem r_X3_firstSized_3 : co_X3_firstSized[3]? = some ((3, .aload_n 0, 0, 0, 0, 0, 0, 0, []) : xm_I) := rfl
theorem r_X3_firstSized_4 : co_X3_firstSized[4]? = some ((4, .getfield 46, 354, 3, 14, 0, 0, 0, []) : xm_I) := rfl
theorem r_X3_firstSized_5 : co_X3_firstSized[5]? = some ((7, .if_icmp .ge 52, 0, 0, 29, 0, 0, 0, []) : xm_I) := rfl
theorem r_X3_firstSized_6 : co_X3_firstSized[6]? = some ((10, .iload_n 3, 0, 0, 0, 0, 0, 0, []) : xm_I) := rfl
theorem r_X3_firstSized_7 : co_X3_firstSized[7]? = some ((11, .sipush 640, 0, 0, 0, 0, 640, 0, []) : xm_I) := rfl
theorem r_X3_firstSized_8 : co_X3_firstSized[8]? = some ((14, .if_icmp .ge 45, 0, 0, 29, 0, 0, 0, []) : xm_I) := rfl
theorem r_X3_firstSized_9 : co_X3_firstSized[9]? = some ((17, .aload_n 0, 0, 0, 0, 0, 0, 0, []) : xm_I) := rfl
theorem r_X3_firstSized_10 : co_X3_firstSized[10]? = some ((18, .getfield 18, 342, 3, 2, 2, 0, 0, []) : xm_I) := rfl
theorem r_X3_firstSized_11 : co_X3_firstSized[11]? = some ((21, .iload_n 3, 0, 0, 0, 0, 0, 0, []) : xm_I) := rfl
theorem r_X3_firstSized_12 : co_X3_firstSized[12]? = some ((22, .iaload, 0, 0, 0, 0, 0, 0, []) : xm_I) := rfl
theorem r_X3_firstSized_13 : co_X3_firstSized[13]? = some ((23, .istore 4, 0, 0, 0, 0, 0, 0, []) : xm_I) := rfl
theorem r_X3_firstSized_14 : co_X3_firstSized[14]? = some ((25, .iload 4, 0, 0, 0, 0, 0, 0, []) : xm_I) := rfl
theorem r_X3_firstSized_15 : co_X3_firstSized[15]? = some ((27, .invokestatic 83, 896, 38, 1, 0, 0, 0, []) : xm_I) := rfl
theorem r_X3_firstSized_16 : co_X3_firstSized[16]? = some ((30, .iload_n 1, 0, 0, 0, 0, 0, 0, []) : xm_I) := rfl
theorem r_X3_firstSized_17 : co_X3_firstSized[17]? = some ((31, .if_icmp .ne 22, 0, 0, 27, 0, 0, 0, []) : xm_I) := rfl
theorem r_X3_firstSized_18 : co_X3_firstSized[18]? = some ((34, .iload 4, 0, 0, 0, 0, 0, 0, []) : xm_I) := rfl
theorem r_X3_firstSized_19 : co_X3_firstSized[19]? = some ((36, .invokestatic 108, 897, 39, 1, 0, 0, 0, []) : xm_I) := rfl
theorem r_X3_firstSized_20 : co_X3_firstSized[20]? = some ((39, .iload_n 2, 0, 0, 0, 0, 0, 0, []) : xm_I) := rfl
theorem r_X3_firstSized_21 : co_X3_firstSized[21]? = some ((40, .if_icmp .ne 13, 0, 0, 27, 0, 0, 0, []) : xm_I) := rfl
theorem r_X3_firstSized_22 : co_X3_firstSized[22]? = some ((43, .iload 4, 0, 0, 0, 0, 0, 0, []) : xm_I) := rfl
theorem r_X3_firstSized_23 : co_X3_firstSized[23]? = some ((45, .invokestatic 105, 909, 42, 1, 0, 0, 0, []) : xm_I) := rfl
theorem r_X3_firstSized_24 : co_X3_firstSized[24]? = some ((48, .ifCond .ne 5, 0, 0, 27, 0, 0, 0, []) : xm_I) := rfl
theorem r_X3_firstSized_25 : co_X3_firstSized[25]? = some ((51, .iload_n 3, 0, 0, 0, 0, 0, 0, []) : xm_I) := rfl
theorem r_X3_firstSized_26 : co_X3_firstSized[26]? = some ((52, .ireturn, 0, 0, 0, 0, 0, 0, []) : xm_I) := rfl
theorem r_X3_firstSized_27 : co_X3_firstSized[27]? = some ((53, .iinc 3 1, 0, 0, 0, 0, 1, 0, []) : xm_I) := rfl
theorem r_X3_firstSized_28 : co_X3_firstSized[28]? = some ((56, .goto (-54), 0, 0, 2, 0, 0, 0, []) : xm_I) := rfl
theorem r_X3_firstSized_29 : co_X3_firstSized[29]? = some ((59, .iconst (-1), 0, 0, 0, 0, (-1), 0, []) : xm_I) := rfl
theorem r_X3_firstSized_30 : co_X3_firstSized[30]? = some ((60, .ireturn, 0, 0, 0, 0, 0, 0, []) : xm_I) := rfl
theorem p_X3_firstSized_0_0 {X : xm_X} {P : List xm_M} {d : Nat} {h : xm_H} {l0 : Nat} {l1 : Int32} {l2 : Int32} {ro : Option Value} {ho : xm_H}  (K : xm_E X P d co_X3_firstSized 2 [some (.ref l0), some (.int l1), some (.int l2), some (.int (0 : Int32)), none] [] h ro ho) : xm_E X P d co_X3_firstSized 0 [some (.ref l0), some (.int l1), some (.int l2), none, none] [] h ro ho := by
  refine xm_E_s r_X3_firstSized_0 rfl rfl ?_
  refine xm_E_s (ls1 := [some (.ref l0), some (.int l1), some (.int l2), some (.int (0 : Int32)), none]) r_X3_firstSized_1 rfl rfl ?_
  exact K
theorem p_X3_firstSized_2_0 {X : xm_X} {P : List xm_M} {d : Nat} {h : xm_H} {l0 : Nat} {l1 : Int32} {l2 : Int32} {l3 : Int32} {l4 : Option Value} (q0 : X.1[l0]? = some (.inr 3)) (q1 : h.1 l0 14 ≤ l3) : xm_E X P d co_X3_firstSized 2 [some (.ref l0), some (.int l1), some (.int l2), some (.int l3), l4] [] h (some (.int (-1 : Int32))) h := by
  refine xm_E_s r_X3_firstSized_2 rfl rfl ?_
  refine xm_E_s r_X3_firstSized_3 rfl rfl ?_
  refine xm_E_s r_X3_firstSized_4 rfl (xm_T_gi rfl q0 rfl (Or.inl rfl)) ?_
  refine xm_E_s r_X3_firstSized_5 rfl rfl ?_
  refine xm_E_t q1 ?_
  refine xm_E_s r_X3_firstSized_29 rfl rfl ?_
  exact xm_E_iret r_X3_firstSized_30 rfl rfl
theorem p_X3_firstSized_2_1 {X : xm_X} {P : List xm_M} {d : Nat} {h : xm_H} {l0 : Nat} {l1 : Int32} {l2 : Int32} {l3 : Int32} {l4 : Option Value} (q0 : X.1[l0]? = some (.inr 3)) (q1 : ¬ (h.1 l0 14 ≤ l3)) (q2 : (640 : Int32) ≤ l3) : xm_E X P d co_X3_firstSized 2 [some (.ref l0), some (.int l1), some (.int l2), some (.int l3), l4] [] h (some (.int (-1 : Int32))) h := by
  refine xm_E_s r_X3_firstSized_2 rfl rfl ?_
  refine xm_E_s r_X3_firstSized_3 rfl rfl ?_
  refine xm_E_s r_X3_firstSized_4 rfl (xm_T_gi rfl q0 rfl (Or.inl rfl)) ?_
  refine xm_E_s r_X3_firstSized_5 rfl rfl ?_
  refine xm_E_f q1 ?_
  refine xm_E_s r_X3_firstSized_6 rfl rfl ?_
  refine xm_E_s r_X3_firstSized_7 rfl rfl ?_
  refine xm_E_s r_X3_firstSized_8 rfl rfl ?_
  refine xm_E_t q2 ?_
  refine xm_E_s r_X3_firstSized_29 rfl rfl ?_
  exact xm_E_iret r_X3_firstSized_30 rfl rfl
theorem p_X3_firstSized_2_2 {X : xm_X} {P : List xm_M} {d : Nat} {h : xm_H} {l0 : Nat} {l1 : Int32} {l2 : Int32} {l3 : Int32} {l4 : Option Value} {v0 : Nat} {n1 : Nat} {h2 : xm_H} {r2 : Int32} {h3 : xm_H} {r3 : Int32} {h4 : xm_H} {r4 : Int32} (q0 : X.1[l0]? = some (.inr 3)) (q1 : ¬ (h.1 l0 14 ≤ l3)) (q2 : ¬ ((640 : Int32) ≤ l3)) (q3 : h.2.2 l0 2 = some v0) (q4 : X.1[v0]? = some (.inl (0, n1))) (q5 : ¬ (l3 < 0 ∨ n1 ≤ l3.toNatClampNeg)) (q6 : xm_V X P d 38 [.int (h.1 v0 l3.toNatClampNeg)] h (some (.int r2)) h2) (q7 : r2 = l1) (q8 : xm_V X P d 39 [.int (h.1 v0 l3.toNatClampNeg)] h2 (some (.int r3)) h3) (q9 : r3 = l2) (q10 : xm_V X P d 42 [.int (h.1 v0 l3.toNatClampNeg)] h3 (some (.int r4)) h4) (q11 : r4 = (0 : Int32)) : xm_E X P d co_X3_firstSized 2 [some (.ref l0), some (.int l1), some (.int l2), some (.int l3), l4] [] h (some (.int l3)) h4 := by
  refine xm_E_s r_X3_firstSized_2 rfl rfl ?_
  refine xm_E_s r_X3_firstSized_3 rfl rfl ?_
  refine xm_E_s r_X3_firstSized_4 rfl (xm_T_gi rfl q0 rfl (Or.inl rfl)) ?_
  refine xm_E_s r_X3_firstSized_5 rfl rfl ?_
  refine xm_E_f q1 ?_
  refine xm_E_s r_X3_firstSized_6 rfl rfl ?_
  refine xm_E_s r_X3_firstSized_7 rfl rfl ?_
  refine xm_E_s r_X3_firstSized_8 rfl rfl ?_
  refine xm_E_f q2 ?_
  refine xm_E_s r_X3_firstSized_9 rfl rfl ?_
  refine xm_E_s r_X3_firstSized_10 rfl (xm_T_gr rfl q0 rfl rfl q3) ?_
  refine xm_E_s r_X3_firstSized_11 rfl rfl ?_
  refine xm_E_s r_X3_firstSized_12 rfl (xm_T_iald rfl q4 (by decide) q5) ?_
  refine xm_E_s (ls1 := [some (.ref l0), some (.int l1), some (.int l2), some (.int l3), some (.int (h.1 v0 l3.toNatClampNeg))]) r_X3_firstSized_13 rfl rfl ?_
  refine xm_E_s r_X3_firstSized_14 rfl rfl ?_
  refine xm_E_cs [.int (h.1 v0 l3.toNatClampNeg)] [] r_X3_firstSized_15 rfl rfl rfl (Nat.le_of_ble_eq_true rfl) rfl q6 ?_
  refine xm_E_s r_X3_firstSized_16 rfl rfl ?_
  refine xm_E_s r_X3_firstSized_17 rfl rfl ?_
  refine xm_E_t q7 ?_
  refine xm_E_s r_X3_firstSized_18 rfl rfl ?_
  refine xm_E_cs [.int (h.1 v0 l3.toNatClampNeg)] [] r_X3_firstSized_19 rfl rfl rfl (Nat.le_of_ble_eq_true rfl) rfl q8 ?_
  refine xm_E_s r_X3_firstSized_20 rfl rfl ?_
  refine xm_E_s r_X3_firstSized_21 rfl rfl ?_
  refine xm_E_t q9 ?_
  refine xm_E_s r_X3_firstSized_22 rfl rfl ?_
  refine xm_E_cs [.int (h.1 v0 l3.toNatClampNeg)] [] r_X3_firstSized_23 rfl rfl rfl (Nat.le_of_ble_eq_true rfl) rfl q10 ?_
  refine xm_E_s r_X3_firstSized_24 rfl rfl ?_
  refine xm_E_t q11 ?_
  refine xm_E_s r_X3_firstSized_25 rfl rfl ?_
  exact xm_E_iret r_X3_firstSized_26 rfl rfl
theorem p_X3_firstSized_2_3 {X : xm_X} {P : List xm_M} {d : Nat} {h : xm_H} {l0 : Nat} {l1 : Int32} {l2 : Int32} {l3 : Int32} {l4 : Option Value} {v0 : Nat} {n1 : Nat} {h2 : xm_H} {r2 : Int32} {h3 : xm_H} {r3 : Int32} {h4 : xm_H} {r4 : Int32} {ro : Option Value} {ho : xm_H} (q0 : X.1[l0]? = some (.inr 3)) (q1 : ¬ (h.1 l0 14 ≤ l3)) (q2 : ¬ ((640 : Int32) ≤ l3)) (q3 : h.2.2 l0 2 = some v0) (q4 : X.1[v0]? = some (.inl (0, n1))) (q5 : ¬ (l3 < 0 ∨ n1 ≤ l3.toNatClampNeg)) (q6 : xm_V X P d 38 [.int (h.1 v0 l3.toNatClampNeg)] h (some (.int r2)) h2) (q7 : r2 = l1) (q8 : xm_V X P d 39 [.int (h.1 v0 l3.toNatClampNeg)] h2 (some (.int r3)) h3) (q9 : r3 = l2) (q10 : xm_V X P d 42 [.int (h.1 v0 l3.toNatClampNeg)] h3 (some (.int r4)) h4) (q11 : ¬ (r4 = (0 : Int32))) (K : xm_E X P d co_X3_firstSized 2 [some (.ref l0), some (.int l1), some (.int l2), some (.int (l3 + (1 : Int32))), some (.int (h.1 v0 l3.toNatClampNeg))] [] h4 ro ho) : xm_E X P d co_X3_firstSized 2 [some (.ref l0), some (.int l1), some (.int l2), some (.int l3), l4] [] h ro ho := by
  refine xm_E_s r_X3_firstSized_2 rfl rfl ?_
  refine xm_E_s r_X3_firstSized_3 rfl rfl ?_
  refine xm_E_s r_X3_firstSized_4 rfl (xm_T_gi rfl q0 rfl (Or.inl rfl)) ?_
  refine xm_E_s r_X3_firstSized_5 rfl rfl ?_
  refine xm_E_f q1 ?_
  refine xm_E_s r_X3_firstSized_6 rfl rfl ?_
  refine xm_E_s r_X3_firstSized_7 rfl rfl ?_
  refine xm_E_s r_X3_firstSized_8 rfl rfl ?_
  refine xm_E_f q2 ?_
  refine xm_E_s r_X3_firstSized_9 rfl rfl ?_
  refine xm_E_s r_X3_firstSized_10 rfl (xm_T_gr rfl q0 rfl rfl q3) ?_
  refine xm_E_s r_X3_firstSized_11 rfl rfl ?_
  refine xm_E_s r_X3_firstSized_12 rfl (xm_T_iald rfl q4 (by decide) q5) ?_
  refine xm_E_s (ls1 := [some (.ref l0), some (.int l1), some (.int l2), some (.int l3), some (.int (h.1 v0 l3.toNatClampNeg))]) r_X3_firstSized_13 rfl rfl ?_
  refine xm_E_s r_X3_firstSized_14 rfl rfl ?_
  refine xm_E_cs [.int (h.1 v0 l3.toNatClampNeg)] [] r_X3_firstSized_15 rfl rfl rfl (Nat.le_of_ble_eq_true rfl) rfl q6 ?_
  refine xm_E_s r_X3_firstSized_16 rfl rfl ?_
  refine xm_E_s r_X3_firstSized_17 rfl rfl ?_
  refine xm_E_t q7 ?_
  refine xm_E_s r_X3_firstSized_18 rfl rfl ?_
  refine xm_E_cs [.int (h.1 v0 l3.toNatClampNeg)] [] r_X3_firstSized_19 rfl rfl rfl (Nat.le_of_ble_eq_true rfl) rfl q8 ?_
  refine xm_E_s r_X3_firstSized_20 rfl rfl ?_
  refine xm_E_s r_X3_firstSized_21 rfl rfl ?_
  refine xm_E_t q9 ?_
  refine xm_E_s r_X3_firstSized_22 rfl rfl ?_
  refine xm_E_cs [.int (h.1 v0 l3.toNatClampNeg)] [] r_X3_firstSized_23 rfl rfl rfl (Nat.le_of_ble_eq_true rfl) rfl q10 ?_
  refine xm_E_s r_X3_firstSized_24 rfl rfl ?_
  refine xm_E_f q11 ?_
  refine xm_E_s (ls1 := [some (.ref l0), some (.int l1), some (.int l2), some (.int (l3 + (1 : Int32))), some (.int (h.1 v0 l3.toNatClampNeg))]) r_X3_firstSized_27 rfl rfl ?_
  refine xm_E_s r_X3_firstSized_28 rfl rfl ?_
  exact K
theorem p_X3_firstSized_2_4 {X : xm_X} {P : List xm_M} {d : Nat} {h : xm_H} {l0 : Nat} {l1 : Int32} {l2 : Int32} {l3 : Int32} {l4 : Option Value} {v0 : Nat} {n1 : Nat} {h2 : xm_H} {r2 : Int32} {h3 : xm_H} {r3 : Int32} {ro : Option Value} {ho : xm_H} (q0 : X.1[l0]? = some (.inr 3)) (q1 : ¬ (h.1 l0 14 ≤ l3)) (q2 : ¬ ((640 : Int32) ≤ l3)) (q3 : h.2.2 l0 2 = some v0) (q4 : X.1[v0]? = some (.inl (0, n1))) (q5 : ¬ (l3 < 0 ∨ n1 ≤ l3.toNatClampNeg)) (q6 : xm_V X P d 38 [.int (h.1 v0 l3.toNatClampNeg)] h (some (.int r2)) h2) (q7 : r2 = l1) (q8 : xm_V X P d 39 [.int (h.1 v0 l3.toNatClampNeg)] h2 (some (.int r3)) h3) (q9 : ¬ (r3 = l2)) (K : xm_E X P d co_X3_firstSized 2 [some (.ref l0), some (.int l1), some (.int l2), some (.int (l3 + (1 : Int32))), some (.int (h.1 v0 l3.toNatClampNeg))] [] h3 ro ho) : xm_E X P d co_X3_firstSized 2 [some (.ref l0), some (.int l1), some (.int l2), some (.int l3), l4] [] h ro ho := by
  refine xm_E_s r_X3_firstSized_2 rfl rfl ?_
  refine xm_E_s r_X3_firstSized_3 rfl rfl ?_
  refine xm_E_s r_X3_firstSized_4 rfl (xm_T_gi rfl q0 rfl (Or.inl rfl)) ?_
  refine xm_E_s r_X3_firstSized_5 rfl rfl ?_
  refine xm_E_f q1 ?_
  refine xm_E_s r_X3_firstSized_6 rfl rfl ?_
  refine xm_E_s r_X3_firstSized_7 rfl rfl ?_
  refine xm_E_s r_X3_firstSized_8 rfl rfl ?_
  refine xm_E_f q2 ?_
  refine xm_E_s r_X3_firstSized_9 rfl rfl ?_
  refine xm_E_s r_X3_firstSized_10 rfl (xm_T_gr rfl q0 rfl rfl q3) ?_
  refine xm_E_s r_X3_firstSized_11 rfl rfl ?_
  refine xm_E_s r_X3_firstSized_12 rfl (xm_T_iald rfl q4 (by decide) q5) ?_
  refine xm_E_s (ls1 := [some (.ref l0), some (.int l1), some (.int l2), some (.int l3), some (.int (h.1 v0 l3.toNatClampNeg))]) r_X3_firstSized_13 rfl rfl ?_
  refine xm_E_s r_X3_firstSized_14 rfl rfl ?_
  refine xm_E_cs [.int (h.1 v0 l3.toNatClampNeg)] [] r_X3_firstSized_15 rfl rfl rfl (Nat.le_of_ble_eq_true rfl) rfl q6 ?_
  refine xm_E_s r_X3_firstSized_16 rfl rfl ?_
  refine xm_E_s r_X3_firstSized_17 rfl rfl ?_
  refine xm_E_t q7 ?_
  refine xm_E_s r_X3_firstSized_18 rfl rfl ?_
  refine xm_E_cs [.int (h.1 v0 l3.toNatClampNeg)] [] r_X3_firstSized_19 rfl rfl rfl (Nat.le_of_ble_eq_true rfl) rfl q8 ?_
  refine xm_E_s r_X3_firstSized_20 rfl rfl ?_
  refine xm_E_s r_X3_firstSized_21 rfl rfl ?_
  refine xm_E_f q9 ?_
  refine xm_E_s (ls1 := [some (.ref l0), some (.int l1), some (.int l2), some (.int (l3 + (1 : Int32))), some (.int (h.1 v0 l3.toNatClampNeg))]) r_X3_firstSized_27 rfl rfl ?_
  refine xm_E_s r_X3_firstSized_28 rfl rfl ?_
  exact K
theorem p_X3_firstSized_2_5 {X : xm_X} {P : List xm_M} {d : Nat} {h : xm_H} {l0 : Nat} {l1 : Int32} {l2 : Int32} {l3 : Int32} {l4 : Option Value} {v0 : Nat} {n1 : Nat} {h2 : xm_H} {r2 : Int32} {ro : Option Value} {ho : xm_H} (q0 : X.1[l0]? = some (.inr 3)) (q1 : ¬ (h.1 l0 14 ≤ l3)) (q2 : ¬ ((640 : Int32) ≤ l3)) (q3 : h.2.2 l0 2 = some v0) (q4 : X.1[v0]? = some (.inl (0, n1))) (q5 : ¬ (l3 < 0 ∨ n1 ≤ l3.toNatClampNeg)) (q6 : xm_V X P d 38 [.int (h.1 v0 l3.toNatClampNeg)] h (some (.int r2)) h2) (q7 : ¬ (r2 = l1)) (K : xm_E X P d co_X3_firstSized 2 [some (.ref l0), some (.int l1), some (.int l2), some (.int (l3 + (1 : Int32))), some (.int (h.1 v0 l3.toNatClampNeg))] [] h2 ro ho) : xm_E X P d co_X3_firstSized 2 [some (.ref l0), some (.int l1), some (.int l2), some (.int l3), l4] [] h ro ho := by
  refine xm_E_s r_X3_firstSized_2 rfl rfl ?_
  refine xm_E_s r_X3_firstSized_3 rfl rfl ?_
  refine xm_E_s r_X3_firstSized_4 rfl (xm_T_gi rfl q0 rfl (Or.inl rfl)) ?_
  refine xm_E_s r_X3_firstSized_5 rfl rfl ?_
  refine xm_E_f q1 ?_
  refine xm_E_s r_X3_firstSized_6 rfl rfl ?_
  refine xm_E_s r_X3_firstSized_7 rfl rfl ?_
  refine xm_E_s r_X3_firstSized_8 rfl rfl ?_
  refine xm_E_f q2 ?_
  refine xm_E_s r_X3_firstSized_9 rfl rfl ?_
  refine xm_E_s r_X3_firstSized_10 rfl (xm_T_gr rfl q0 rfl rfl q3) ?_
  refine xm_E_s r_X3_firstSized_11 rfl rfl ?_
  refine xm_E_s r_X3_firstSized_12 rfl (xm_T_iald rfl q4 (by decide) q5) ?_
  refine xm_E_s (ls1 := [some (.ref l0), some (.int l1), some (.int l2), some (.int l3), some (.int (h.1 v0 l3.toNatClampNeg))]) r_X3_firstSized_13 rfl rfl ?_
  refine xm_E_s r_X3_firstSized_14 rfl rfl ?_
  refine xm_E_cs [.int (h.1 v0 l3.toNatClampNeg)] [] r_X3_firstSized_15 rfl rfl rfl (Nat.le_of_ble_eq_true rfl) rfl q6 ?_
  refine xm_E_s r_X3_firstSized_16 rfl rfl ?_
  refine xm_E_s r_X3_firstSized_17 rfl rfl ?_
  refine xm_E_f q7 ?_
  refine xm_E_s (ls1 := [some (.ref l0), some (.int l1), some (.int l2), some (.int (l3 + (1 : Int32))), some (.int (h.1 v0 l3.toNatClampNeg))]) r_X3_firstSized_27 rfl rfl ?_
  refine xm_E_s r_X3_firstSized_28 rfl rfl ?_
  exact K
theorem r_X3_within_0 : co_X3_within[0]? = some ((0, .iconst 0, 0, 0, 0, 0, 0, 0, []) : xm_I) := rfl
theorem r_X3_within_1 : co_X3_within[1]? = some ((1, .istore_n 2, 0, 0, 0, 0, 0, 0, []) : xm_I) := rfl
theorem r_X3_within_2 : co_X3_within[2]? = some ((2, .iconst 0, 0, 0, 0, 0, 0, 0, []) : xm_I) := rfl
theorem r_X3_within_3 : co_X3_within[3]? = some ((3, .istore_n 3, 0, 0, 0, 0, 0, 0, []) : xm_I) := rfl
theorem r_X3_within_4 : co_X3_within[4]? = some ((4, .iload_n 3, 0, 0, 0, 0, 0, 0, []) : xm_I) := rfl
theorem r_X3_within_5 : co_X3_within[5]? = some ((5, .aload_n 0, 0, 0, 0, 0, 0, 0, []) : xm_I) := rfl
theorem r_X3_within_6 : co_X3_within[6]? = some ((6, .getfield 46, 354, 3, 14, 0, 0, 0, []) : xm_I) := rfl
theorem r_X3_within_7 : co_X3_within[7]? = some ((9, .if_icmp .ge 29, 0, 0, 20, 0, 0, 0, []) : xm_I) := rfl
theorem r_X3_within_8 : co_X3_within[8]? = some ((12, .iload_n 3, 0, 0, 0, 0, 0, 0, []) : xm_I) := rfl
theorem r_X3_within_9 : co_X3_within[9]? = some ((13, .sipush 640, 0, 0, 0, 0, 640, 0, []) : xm_I) := rfl
theorem r_X3_within_10 : co_X3_within[10]? = some ((16, .if_icmp .ge 22, 0, 0, 20, 0, 0, 0, []) : xm_I) := rfl
theorem r_X3_within_11 : co_X3_within[11]? = some ((19, .aload_n 0, 0, 0, 0, 0, 0, 0, []) : xm_I) := rfl
theorem r_X3_within_12 : co_X3_within[12]? = some ((20, .getfield 30, 346, 3, 6, 2, 0, 0, []) : xm_I) := rfl
theorem r_X3_within_13 : co_X3_within[13]? = some ((23, .iload_n 3, 0, 0, 0, 0, 0, 0, []) : xm_I) := rfl
theorem r_X3_within_14 : co_X3_within[14]? = some ((24, .iaload, 0, 0, 0, 0, 0, 0, []) : xm_I) := rfl
theorem r_X3_within_15 : co_X3_within[15]? = some ((25, .iload_n 1, 0, 0, 0, 0, 0, 0, []) : xm_I) := rfl
theorem r_X3_within_16 : co_X3_within[16]? = some ((26, .if_icmp .gt 6, 0, 0, 18, 0, 0, 0, []) : xm_I) := rfl
theorem r_X3_within_17 : co_X3_within[17]? = some ((29, .iinc 2 1, 0, 0, 0, 0, 1, 0, []) : xm_I) := rfl
theorem r_X3_within_18 : co_X3_within[18]? = some ((32, .iinc 3 1, 0, 0, 0, 0, 1, 0, []) : xm_I) := rfl
theorem r_X3_within_19 : co_X3_within[19]? = some ((35, .goto (-31), 0, 0, 4, 0, 0, 0, []) : xm_I) := rfl
theorem r_X3_within_20 : co_X3_within[20]? = some ((38, .iload_n 2, 0, 0, 0, 0, 0, 0, []) : xm_I) := rfl
theorem r_X3_within_21 : co_X3_within[21]? = some ((39, .ireturn, 0, 0, 0, 0, 0, 0, []) : xm_I) := rfl
theorem p_X3_within_0_0 {X : xm_X} {P : List xm_M} {d : Nat} {h : xm_H} {l0 : Nat} {l1 : Int32} {ro : Option Value} {ho : xm_H}  (K : xm_E X P d co_X3_within 4 [some (.ref l0), some (.int l1), some (.int (0 : Int32)), some (.int (0 : Int32))] [] h ro ho) : xm_E X P d co_X3_within 0 [some (.ref l0), some (.int l1), none, none] [] h ro ho := by
  refine xm_E_s r_X3_within_0 rfl rfl ?_
  refine xm_E_s (ls1 := [some (.ref l0), some (.int l1), some (.int (0 : Int32)), none]) r_X3_within_1 rfl rfl ?_
  refine xm_E_s r_X3_within_2 rfl rfl ?_
  refine xm_E_s (ls1 := [some (.ref l0), some (.int l1), some (.int (0 : Int32)), some (.int (0 : Int32))]) r_X3_within_3 rfl rfl ?_
  exact K
theorem p_X3_within_4_0 {X : xm_X} {P : List xm_M} {d : Nat} {h : xm_H} {l0 : Nat} {l1 : Int32} {l2 : Int32} {l3 : Int32} (q0 : X.1[l0]? = some (.inr 3)) (q1 : h.1 l0 14 ≤ l3) : xm_E X P d co_X3_within 4 [some (.ref l0), some (.int l1), some (.int l2), some (.int l3)] [] h (some (.int l2)) h := by
  refine xm_E_s r_X3_within_4 rfl rfl ?_
  refine xm_E_s r_X3_within_5 rfl rfl ?_
  refine xm_E_s r_X3_within_6 rfl (xm_T_gi rfl q0 rfl (Or.inl rfl)) ?_
  refine xm_E_s r_X3_within_7 rfl rfl ?_
  refine xm_E_t q1 ?_
  refine xm_E_s r_X3_within_20 rfl rfl ?_
  exact xm_E_iret r_X3_within_21 rfl rfl
theorem p_X3_within_4_1 {X : xm_X} {P : List xm_M} {d : Nat} {h : xm_H} {l0 : Nat} {l1 : Int32} {l2 : Int32} {l3 : Int32} (q0 : X.1[l0]? = some (.inr 3)) (q1 : ¬ (h.1 l0 14 ≤ l3)) (q2 : (640 : Int32) ≤ l3) : xm_E X P d co_X3_within 4 [some (.ref l0), some (.int l1), some (.int l2), some (.int l3)] [] h (some (.int l2)) h := by
  refine xm_E_s r_X3_within_4 rfl rfl ?_
  refine xm_E_s r_X3_within_5 rfl rfl ?_
  refine xm_E_s r_X3_within_6 rfl (xm_T_gi rfl q0 rfl (Or.inl rfl)) ?_
  refine xm_E_s r_X3_within_7 rfl rfl ?_
  refine xm_E_f q1 ?_
  refine xm_E_s r_X3_within_8 rfl rfl ?_
  refine xm_E_s r_X3_within_9 rfl rfl ?_
  refine xm_E_s r_X3_within_10 rfl rfl ?_
  refine xm_E_t q2 ?_
  refine xm_E_s r_X3_within_20 rfl rfl ?_
  exact xm_E_iret r_X3_within_21 rfl rfl
theorem p_X3_within_4_2 {X : xm_X} {P : List xm_M} {d : Nat} {h : xm_H} {l0 : Nat} {l1 : Int32} {l2 : Int32} {l3 : Int32} {v0 : Nat} {n1 : Nat} {ro : Option Value} {ho : xm_H} (q0 : X.1[l0]? = some (.inr 3)) (q1 : ¬ (h.1 l0 14 ≤ l3)) (q2 : ¬ ((640 : Int32) ≤ l3)) (q3 : h.2.2 l0 6 = some v0) (q4 : X.1[v0]? = some (.inl (0, n1))) (q5 : ¬ (l3 < 0 ∨ n1 ≤ l3.toNatClampNeg)) (q6 : l1 < h.1 v0 l3.toNatClampNeg) (K : xm_E X P d co_X3_within 4 [some (.ref l0), some (.int l1), some (.int l2), some (.int (l3 + (1 : Int32)))] [] h ro ho) : xm_E X P d co_X3_within 4 [some (.ref l0), some (.int l1), some (.int l2), some (.int l3)] [] h ro ho := by
  refine xm_E_s r_X3_within_4 rfl rfl ?_
  refine xm_E_s r_X3_within_5 rfl rfl ?_
  refine xm_E_s r_X3_within_6 rfl (xm_T_gi rfl q0 rfl (Or.inl rfl)) ?_
  refine xm_E_s r_X3_within_7 rfl rfl ?_
  refine xm_E_f q1 ?_
  refine xm_E_s r_X3_within_8 rfl rfl ?_
  refine xm_E_s r_X3_within_9 rfl rfl ?_
  refine xm_E_s r_X3_within_10 rfl rfl ?_
  refine xm_E_f q2 ?_
  refine xm_E_s r_X3_within_11 rfl rfl ?_
  refine xm_E_s r_X3_within_12 rfl (xm_T_gr rfl q0 rfl rfl q3) ?_
  refine xm_E_s r_X3_within_13 rfl rfl ?_
  refine xm_E_s r_X3_within_14 rfl (xm_T_iald rfl q4 (by decide) q5) ?_
  refine xm_E_s r_X3_within_15 rfl rfl ?_
  refine xm_E_s r_X3_within_16 rfl rfl ?_
  refine xm_E_t q6 ?_
  refine xm_E_s (ls1 := [some (.ref l0), some (.int l1), some (.int l2), some (.int (l3 + (1 : Int32)))]) r_X3_within_18 rfl rfl ?_
  refine xm_E_s r_X3_within_19 rfl rfl ?_
  exact K
theorem p_X3_within_4_3 {X : xm_X} {P : List xm_M} {d : Nat} {h : xm_H} {l0 : Nat} {l1 : Int32} {l2 : Int32} {l3 : Int32} {v0 : Nat} {n1 : Nat} {ro : Option Value} {ho : xm_H} (q0 : X.1[l0]? = some (.inr 3)) (q1 : ¬ (h.1 l0 14 ≤ l3)) (q2 : ¬ ((640 : Int32) ≤ l3)) (q3 : h.2.2 l0 6 = some v0) (q4 : X.1[v0]? = some (.inl (0, n1))) (q5 : ¬ (l3 < 0 ∨ n1 ≤ l3.toNatClampNeg)) (q6 : ¬ (l1 < h.1 v0 l3.toNatClampNeg)) (K : xm_E X P d co_X3_within 4 [some (.ref l0), some (.int l1), some (.int (l2 + (1 : Int32))), some (.int (l3 + (1 : Int32)))] [] h ro ho) : xm_E X P d co_X3_within 4 [some (.ref l0), some (.int l1), some (.int l2), some (.int l3)] [] h ro ho := by
  refine xm_E_s r_X3_within_4 rfl rfl ?_
  refine xm_E_s r_X3_within_5 rfl rfl ?_
  refine xm_E_s r_X3_within_6 rfl (xm_T_gi rfl q0 rfl (Or.inl rfl)) ?_
  refine xm_E_s r_X3_within_7 rfl rfl ?_
  refine xm_E_f q1 ?_
  refine xm_E_s r_X3_within_8 rfl rfl ?_
  refine xm_E_s r_X3_within_9 rfl rfl ?_
  refine xm_E_s r_X3_within_10 rfl rfl ?_
  refine xm_E_f q2 ?_
  refine xm_E_s r_X3_within_11 rfl rfl ?_
  refine xm_E_s r_X3_within_12 rfl (xm_T_gr rfl q0 rfl rfl q3) ?_
  refine xm_E_s r_X3_within_13 rfl rfl ?_
  refine xm_E_s r_X3_within_14 rfl (xm_T_iald rfl q4 (by decide) q5) ?_
  refine xm_E_s r_X3_within_15 rfl rfl ?_
  refine xm_E_s r_X3_within_16 rfl rfl ?_
  refine xm_E_f q6 ?_
  refine xm_E_s (ls1 := [some (.ref l0), some (.int l1), some (.int (l2 + (1 : Int32))), some (.int l3)]) r_X3_within_17 rfl rfl ?_
  refine xm_E_s (ls1 := [some (.ref l0), some (.int l1), some (.int (l2 + (1 : Int32))), some (.int (l3 + (1 : Int32)))]) r_X3_within_18 rfl rfl ?_
  refine xm_E_s r_X3_within_19 rfl rfl ?_
  exact K
theorem r_X3_stateAt_0 : co_X3_stateAt[0]? = some ((0, .iload_n 1, 0, 0, 0, 0, 0, 0, []) : xm_I) := rfl
theorem r_X3_stateAt_1 : co_X3_stateAt[1]? = some ((1, .ifCond .lt 27, 0, 0, 14, 0, 0, 0, []) : xm_I) := rfl
theorem r_X3_stateAt_2 : co_X3_stateAt[2]? = some ((4, .iload_n 1, 0, 0, 0, 0, 0, 0, []) : xm_I) := rfl
theorem r_X3_stateAt_3 : co_X3_stateAt[3]? = some ((5, .aload_n 0, 0, 0, 0, 0, 0, 0, []) : xm_I) := rfl
theorem r_X3_stateAt_4 : co_X3_stateAt[4]? = some ((6, .getfield 46, 354, 3, 14, 0, 0, 0, []) : xm_I) := rfl
theorem r_X3_stateAt_5 : co_X3_stateAt[5]? = some ((9, .if_icmp .ge 19, 0, 0, 14, 0, 0, 0, []) : xm_I) := rfl
theorem r_X3_stateAt_6 : co_X3_stateAt[6]? = some ((12, .iload_n 1, 0, 0, 0, 0, 0, 0, []) : xm_I) := rfl
theorem r_X3_stateAt_7 : co_X3_stateAt[7]? = some ((13, .sipush 640, 0, 0, 0, 0, 640, 0, []) : xm_I) := rfl
theorem r_X3_stateAt_8 : co_X3_stateAt[8]? = some ((16, .if_icmp .ge 12, 0, 0, 14, 0, 0, 0, []) : xm_I) := rfl
theorem r_X3_stateAt_9 : co_X3_stateAt[9]? = some ((19, .aload_n 0, 0, 0, 0, 0, 0, 0, []) : xm_I) := rfl
theorem r_X3_stateAt_10 : co_X3_stateAt[10]? = some ((20, .getfield 18, 342, 3, 2, 2, 0, 0, []) : xm_I) := rfl
theorem r_X3_stateAt_11 : co_X3_stateAt[11]? = some ((23, .iload_n 1, 0, 0, 0, 0, 0, 0, []) : xm_I) := rfl
theorem r_X3_stateAt_12 : co_X3_stateAt[12]? = some ((24, .iaload, 0, 0, 0, 0, 0, 0, []) : xm_I) := rfl
theorem r_X3_stateAt_13 : co_X3_stateAt[13]? = some ((25, .goto 4, 0, 0, 15, 0, 0, 0, []) : xm_I) := rfl
theorem r_X3_stateAt_14 : co_X3_stateAt[14]? = some ((28, .iconst 0, 0, 0, 0, 0, 0, 0, []) : xm_I) := rfl
theorem r_X3_stateAt_15 : co_X3_stateAt[15]? = some ((29, .ireturn, 0, 0, 0, 0, 0, 0, []) : xm_I) := rfl
theorem p_X3_stateAt_0_0 {X : xm_X} {P : List xm_M} {d : Nat} {h : xm_H} {l0 : Nat} {l1 : Int32} (q0 : l1 < (0 : Int32)) : xm_E X P d co_X3_stateAt 0 [some (.ref l0), some (.int l1)] [] h (some (.int (0 : Int32))) h := by
  refine xm_E_s r_X3_stateAt_0 rfl rfl ?_
  refine xm_E_s r_X3_stateAt_1 rfl rfl ?_
  refine xm_E_t q0 ?_
  refine xm_E_s r_X3_stateAt_14 rfl rfl ?_
  exact xm_E_iret r_X3_stateAt_15 rfl rfl
theorem p_X3_stateAt_0_1 {X : xm_X} {P : List xm_M} {d : Nat} {h : xm_H} {l0 : Nat} {l1 : Int32} (q0 : ¬ (l1 < (0 : Int32))) (q1 : X.1[l0]? = some (.inr 3)) (q2 : h.1 l0 14 ≤ l1) : xm_E X P d co_X3_stateAt 0 [some (.ref l0), some (.int l1)] [] h (some (.int (0 : Int32))) h := by
  refine xm_E_s r_X3_stateAt_0 rfl rfl ?_
  refine xm_E_s r_X3_stateAt_1 rfl rfl ?_
  refine xm_E_f q0 ?_
  refine xm_E_s r_X3_stateAt_2 rfl rfl ?_
  refine xm_E_s r_X3_stateAt_3 rfl rfl ?_
  refine xm_E_s r_X3_stateAt_4 rfl (xm_T_gi rfl q1 rfl (Or.inl rfl)) ?_
  refine xm_E_s r_X3_stateAt_5 rfl rfl ?_
  refine xm_E_t q2 ?_
  refine xm_E_s r_X3_stateAt_14 rfl rfl ?_
  exact xm_E_iret r_X3_stateAt_15 rfl rfl
theorem p_X3_stateAt_0_2 {X : xm_X} {P : List xm_M} {d : Nat} {h : xm_H} {l0 : Nat} {l1 : Int32} (q0 : ¬ (l1 < (0 : Int32))) (q1 : X.1[l0]? = some (.inr 3)) (q2 : ¬ (h.1 l0 14 ≤ l1)) (q3 : (640 : Int32) ≤ l1) : xm_E X P d co_X3_stateAt 0 [some (.ref l0), some (.int l1)] [] h (some (.int (0 : Int32))) h := by
  refine xm_E_s r_X3_stateAt_0 rfl rfl ?_
  refine xm_E_s r_X3_stateAt_1 rfl rfl ?_
  refine xm_E_f q0 ?_
  refine xm_E_s r_X3_stateAt_2 rfl rfl ?_
  refine xm_E_s r_X3_stateAt_3 rfl rfl ?_
  refine xm_E_s r_X3_stateAt_4 rfl (xm_T_gi rfl q1 rfl (Or.inl rfl)) ?_
  refine xm_E_s r_X3_stateAt_5 rfl rfl ?_
  refine xm_E_f q2 ?_
  refine xm_E_s r_X3_stateAt_6 rfl rfl ?_
  refine xm_E_s r_X3_stateAt_7 rfl rfl ?_
  refine xm_E_s r_X3_stateAt_8 rfl rfl ?_
  refine xm_E_t q3 ?_
  refine xm_E_s r_X3_stateAt_14 rfl rfl ?_
  exact xm_E_iret r_X3_stateAt_15 rfl rfl
theorem p_X3_stateAt_0_3 {X : xm_X} {P : List xm_M} {d : Nat} {h : xm_H} {l0 : Nat} {l1 : Int32} {v0 : Nat} {n1 : Nat} (q0 : ¬ (l1 < (0 : Int32))) (q1 : X.1[l0]? = some (.inr 3)) (q2 : ¬ (h.1 l0 14 ≤ l1)) (q3 : ¬ ((640 : Int32) ≤ l1)) (q4 : h.2.2 l0 2 = some v0) (q5 : X.1[v0]? = some (.inl (0, n1))) (q6 : ¬ (l1 < 0 ∨ n1 ≤ l1.toNatClampNeg)) : xm_E X P d co_X3_stateAt 0 [some (.ref l0), some (.int l1)] [] h (some (.int (h.1 v0 l1.toNatClampNeg))) h := by
  refine xm_E_s r_X3_stateAt_0 rfl rfl ?_
  refine xm_E_s r_X3_stateAt_1 rfl rfl ?_
  refine xm_E_f q0 ?_
  refine xm_E_s r_X3_stateAt_2 rfl rfl ?_
  refine xm_E_s r_X3_stateAt_3 rfl rfl ?_
  refine xm_E_s r_X3_stateAt_4 rfl (xm_T_gi rfl q1 rfl (Or.inl rfl)) ?_
  refine xm_E_s r_X3_stateAt_5 rfl rfl ?_
  refine xm_E_f q2 ?_
  refine xm_E_s r_X3_stateAt_6 rfl rfl ?_
  refine xm_E_s r_X3_stateAt_7 rfl rfl ?_
  refine xm_E_s r_X3_stateAt_8 rfl rfl ?_
  refine xm_E_f q3 ?_
  refine xm_E_s r_X3_stateAt_9 rfl rfl ?_
  refine xm_E_s r_X3_stateAt_10 rfl (xm_T_gr rfl q1 rfl rfl q4) ?_
  refine xm_E_s r_X3_stateAt_11 rfl rfl ?_
  refine xm_E_s r_X3_stateAt_12 rfl (xm_T_iald rfl q5 (by decide) q6) ?_
  refine xm_E_s r_X3_stateAt_13 rfl rfl ?_
  exact xm_E_iret r_X3_stateAt_15 rfl rfl
theorem r_X3_waysTo_0 : co_X3_waysTo[0]? = some ((0, .iconst 0, 0, 0, 0, 0, 0, 0, []) : xm_I) := rfl
theorem r_X3_waysTo_1 : co_X3_waysTo[1]? = some ((1, .istore_n 3, 0, 0, 0, 0, 0, 0, []) : xm_I) := rfl
theorem r_X3_waysTo_2 : co_X3_waysTo[2]? = some ((2, .iload_n 3, 0, 0, 0, 0, 0, 0, []) : xm_I) := rfl
theorem r_X3_waysTo_3 : co_X3_waysTo[3]? = some ((3, .aload_n 0, 0, 0, 0, 0, 0, 0, []) : xm_I) := rfl
theorem r_X3_waysTo_4 : co_X3_waysTo[4]? = some ((4, .getfield 46, 354, 3, 14, 0, 0, 0, []) : xm_I) := rfl
theorem r_X3_waysTo_5 : co_X3_waysTo[5]? = some ((7, .if_icmp .ge 65, 0, 0, 39, 0, 0, 0, []) : xm_I) := rfl
theorem r_X3_waysTo_6 : co_X3_waysTo[6]? = some ((10, .iload_n 3, 0, 0, 0, 0, 0, 0, []) : xm_I) := rfl
theorem r_X3_waysTo_7 : co_X3_waysTo[7]? = some ((11, .sipush 640, 0, 0, 0, 0, 640, 0, []) : xm_I) := rfl
theorem r_X3_waysTo_8 : co_X3_waysTo[8]? = some ((14, .if_icmp .ge 58, 0, 0, 39, 0, 0, 0, []) : xm_I) := rfl
theorem r_X3_waysTo_9 : co_X3_waysTo[9]? = some ((17, .aload_n 0, 0, 0, 0, 0, 0, 0, []) : xm_I) := rfl
theorem r_X3_waysTo_10 : co_X3_waysTo[10]? = some ((18, .getfield 18, 342, 3, 2, 2, 0, 0, []) : xm_I) := rfl
theorem r_X3_waysTo_11 : co_X3_waysTo[11]? = some ((21, .iload_n 3, 0, 0, 0, 0, 0, 0, []) : xm_I) := rfl
theorem r_X3_waysTo_12 : co_X3_waysTo[12]? = some ((22, .iaload, 0, 0, 0, 0, 0, 0, []) : xm_I) := rfl
theorem r_X3_waysTo_13 : co_X3_waysTo[13]? = some ((23, .iload_n 1, 0, 0, 0, 0, 0, 0, []) : xm_I) := rfl
theorem r_X3_waysTo_14 : co_X3_waysTo[14]? = some ((24, .if_icmp .ne 7, 0, 0, 17, 0, 0, 0, []) : xm_I) := rfl
theorem r_X3_waysTo_15 : co_X3_waysTo[15]? = some ((27, .iconst 1, 0, 0, 0, 0, 1, 0, []) : xm_I) := rfl
theorem r_X3_waysTo_16 : co_X3_waysTo[16]? = some ((28, .goto 4, 0, 0, 18, 0, 0, 0, []) : xm_I) := rfl
theorem r_X3_waysTo_17 : co_X3_waysTo[17]? = some ((31, .iconst 0, 0, 0, 0, 0, 0, 0, []) : xm_I) := rfl
theorem r_X3_waysTo_18 : co_X3_waysTo[18]? = some ((32, .istore 4, 0, 0, 0, 0, 0, 0, []) : xm_I) := rfl
theorem r_X3_waysTo_19 : co_X3_waysTo[19]? = some ((34, .aload_n 0, 0, 0, 0, 0, 0, 0, []) : xm_I) := rfl
theorem r_X3_waysTo_20 : co_X3_waysTo[20]? = some ((35, .getfield 39, 349, 3, 9, 2, 0, 0, []) : xm_I) := rfl
theorem r_X3_waysTo_21 : co_X3_waysTo[21]? = some ((38, .iload_n 3, 0, 0, 0, 0, 0, 0, []) : xm_I) := rfl
theorem r_X3_waysTo_22 : co_X3_waysTo[22]? = some ((39, .iload 4, 0, 0, 0, 0, 0, 0, []) : xm_I) := rfl
theorem r_X3_waysTo_23 : co_X3_waysTo[23]? = some ((41, .ifCond .eq 7, 0, 0, 26, 0, 0, 0, []) : xm_I) := rfl
theorem r_X3_waysTo_24 : co_X3_waysTo[24]? = some ((44, .lconst 1, 0, 0, 0, 0, 0, 1, []) : xm_I) := rfl
theorem r_X3_waysTo_25 : co_X3_waysTo[25]? = some ((45, .goto 4, 0, 0, 27, 0, 0, 0, []) : xm_I) := rfl
theorem r_X3_waysTo_26 : co_X3_waysTo[26]? = some ((48, .lconst 0, 0, 0, 0, 0, 0, 0, []) : xm_I) := rfl
theorem r_X3_waysTo_27 : co_X3_waysTo[27]? = some ((49, .lastore, 0, 0, 0, 0, 0, 0, []) : xm_I) := rfl
theorem r_X3_waysTo_28 : co_X3_waysTo[28]? = some ((50, .aload_n 0, 0, 0, 0, 0, 0, 0, []) : xm_I) := rfl
theorem r_X3_waysTo_29 : co_X3_waysTo[29]? = some ((51, .getfield 36, 348, 3, 8, 2, 0, 0, []) : xm_I) := rfl
theorem r_X3_waysTo_30 : co_X3_waysTo[30]? = some ((54, .iload_n 3, 0, 0, 0, 0, 0, 0, []) : xm_I) := rfl
theorem r_X3_waysTo_31 : co_X3_waysTo[31]? = some ((55, .iload 4, 0, 0, 0, 0, 0, 0, []) : xm_I) := rfl
theorem r_X3_waysTo_32 : co_X3_waysTo[32]? = some ((57, .ifCond .eq 7, 0, 0, 35, 0, 0, 0, []) : xm_I) := rfl
theorem r_X3_waysTo_33 : co_X3_waysTo[33]? = some ((60, .iconst 1, 0, 0, 0, 0, 1, 0, []) : xm_I) := rfl
theorem r_X3_waysTo_34 : co_X3_waysTo[34]? = some ((61, .goto 4, 0, 0, 36, 0, 0, 0, []) : xm_I) := rfl
theorem r_X3_waysTo_35 : co_X3_waysTo[35]? = some ((64, .iconst 0, 0, 0, 0, 0, 0, 0, []) : xm_I) := rfl
theorem r_X3_waysTo_36 : co_X3_waysTo[36]? = some ((65, .iastore, 0, 0, 0, 0, 0, 0, []) : xm_I) := rfl
theorem r_X3_waysTo_37 : co_X3_waysTo[37]? = some ((66, .iinc 3 1, 0, 0, 0, 0, 1, 0, []) : xm_I) := rfl
theorem r_X3_waysTo_38 : co_X3_waysTo[38]? = some ((69, .goto (-67), 0, 0, 2, 0, 0, 0, []) : xm_I) := rfl
theorem r_X3_waysTo_39 : co_X3_waysTo[39]? = some ((72, .iconst 1, 0, 0, 0, 0, 1, 0, []) : xm_I) := rfl
theorem r_X3_waysTo_40 : co_X3_waysTo[40]? = some ((73, .istore_n 3, 0, 0, 0, 0, 0, 0, []) : xm_I) := rfl
theorem r_X3_waysTo_41 : co_X3_waysTo[41]? = some ((74, .iload_n 3, 0, 0, 0, 0, 0, 0, []) : xm_I) := rfl
theorem r_X3_waysTo_42 : co_X3_waysTo[42]? = some ((75, .iload_n 2, 0, 0, 0, 0, 0, 0, []) : xm_I) := rfl
theorem r_X3_waysTo_43 : co_X3_waysTo[43]? = some ((76, .if_icmp .gt 20, 0, 0, 52, 0, 0, 0, []) : xm_I) := rfl
theorem r_X3_waysTo_44 : co_X3_waysTo[44]? = some ((79, .iload_n 3, 0, 0, 0, 0, 0, 0, []) : xm_I) := rfl
theorem r_X3_waysTo_45 : co_X3_waysTo[45]? = some ((80, .bipush 12, 0, 0, 0, 0, 12, 0, []) : xm_I) := rfl
theorem r_X3_waysTo_46 : co_X3_waysTo[46]? = some ((82, .if_icmp .gt 14, 0, 0, 52, 0, 0, 0, []) : xm_I) := rfl
theorem r_X3_waysTo_47 : co_X3_waysTo[47]? = some ((85, .aload_n 0, 0, 0, 0, 0, 0, 0, []) : xm_I) := rfl
theorem r_X3_waysTo_48 : co_X3_waysTo[48]? = some ((86, .iload_n 3, 0, 0, 0, 0, 0, 0, []) : xm_I) := rfl
theorem r_X3_waysTo_49 : co_X3_waysTo[49]? = some ((87, .invokevirtual 149, 1058, 119, 2, 3, 0, 0, []) : xm_I) := rfl
theorem r_X3_waysTo_50 : co_X3_waysTo[50]? = some ((90, .iinc 3 1, 0, 0, 0, 0, 1, 0, []) : xm_I) := rfl
theorem r_X3_waysTo_51 : co_X3_waysTo[51]? = some ((93, .goto (-19), 0, 0, 41, 0, 0, 0, []) : xm_I) := rfl
theorem r_X3_waysTo_52 : co_X3_waysTo[52]? = some ((96, .aload_n 0, 0, 0, 0, 0, 0, 0, []) : xm_I) := rfl
theorem r_X3_waysTo_53 : co_X3_waysTo[53]? = some ((97, .getfield 46, 354, 3, 14, 0, 0, 0, []) : xm_I) := rfl
theorem r_X3_waysTo_54 : co_X3_waysTo[54]? = some ((100, .ifCond .ne 7, 0, 0, 57, 0, 0, 0, []) : xm_I) := rfl
theorem r_X3_waysTo_55 : co_X3_waysTo[55]? = some ((103, .lconst 0, 0, 0, 0, 0, 0, 0, []) : xm_I) := rfl
theorem r_X3_waysTo_56 : co_X3_waysTo[56]? = some ((104, .goto 9, 0, 0, 61, 0, 0, 0, []) : xm_I) := rfl
theorem r_X3_waysTo_57 : co_X3_waysTo[57]? = some ((107, .aload_n 0, 0, 0, 0, 0, 0, 0, []) : xm_I) := rfl
theorem r_X3_waysTo_58 : co_X3_waysTo[58]? = some ((108, .getfield 39, 349, 3, 9, 2, 0, 0, []) : xm_I) := rfl
theorem r_X3_waysTo_59 : co_X3_waysTo[59]? = some ((111, .iconst 0, 0, 0, 0, 0, 0, 0, []) : xm_I) := rfl
theorem r_X3_waysTo_60 : co_X3_waysTo[60]? = some ((112, .laload, 0, 0, 0, 0, 0, 0, []) : xm_I) := rfl
theorem r_X3_waysTo_61 : co_X3_waysTo[61]? = some ((113, .lreturn, 0, 0, 0, 0, 0, 0, []) : xm_I) := rfl
theorem p_X3_waysTo_0_0 {X : xm_X} {P : List xm_M} {d : Nat} {h : xm_H} {l0 : Nat} {l1 : Int32} {l2 : Int32} {ro : Option Value} {ho : xm_H}  (K : xm_E X P d co_X3_waysTo 2 [some (.ref l0), some (.int l1), some (.int l2), some (.int (0 : Int32)), none] [] h ro ho) : xm_E X P d co_X3_waysTo 0 [some (.ref l0), some (.int l1), some (.int l2), none, none] [] h ro ho := by
  refine xm_E_s r_X3_waysTo_0 rfl rfl ?_
  refine xm_E_s (ls1 := [some (.ref l0), some (.int l1), some (.int l2), some (.int (0 : Int32)), none]) r_X3_waysTo_1 rfl rfl ?_
  exact K
theorem p_X3_waysTo_2_0 {X : xm_X} {P : List xm_M} {d : Nat} {h : xm_H} {l0 : Nat} {l1 : Int32} {l2 : Int32} {l3 : Int32} {l4 : Option Value} {ro : Option Value} {ho : xm_H} (q0 : X.1[l0]? = some (.inr 3)) (q1 : h.1 l0 14 ≤ l3) (K : xm_E X P d co_X3_waysTo 41 [some (.ref l0), some (.int l1), some (.int l2), some (.int (1 : Int32)), l4] [] h ro ho) : xm_E X P d co_X3_waysTo 2 [some (.ref l0), some (.int l1), some (.int l2), some (.int l3), l4] [] h ro ho := by
  refine xm_E_s r_X3_waysTo_2 rfl rfl ?_
  refine xm_E_s r_X3_waysTo_3 rfl rfl ?_
  refine xm_E_s r_X3_waysTo_4 rfl (xm_T_gi rfl q0 rfl (Or.inl rfl)) ?_
  refine xm_E_s r_X3_waysTo_5 rfl rfl ?_
  refine xm_E_t q1 ?_
  refine xm_E_s r_X3_waysTo_39 rfl rfl ?_
  refine xm_E_s (ls1 := [some (.ref l0), some (.int l1), some (.int l2), some (.int (1 : Int32)), l4]) r_X3_waysTo_40 rfl rfl ?_
  exact K
theorem p_X3_waysTo_2_1 {X : xm_X} {P : List xm_M} {d : Nat} {h : xm_H} {l0 : Nat} {l1 : Int32} {l2 : Int32} {l3 : Int32} {l4 : Option Value} {ro : Option Value} {ho : xm_H} (q0 : X.1[l0]? = some (.inr 3)) (q1 : ¬ (h.1 l0 14 ≤ l3)) (q2 : (640 : Int32) ≤ l3) (K : xm_E X P d co_X3_waysTo 41 [some (.ref l0), some (.int l1), some (.int l2), some (.int (1 : Int32)), l4] [] h ro ho) : xm_E X P d co_X3_waysTo 2 [some (.ref l0), some (.int l1), some (.int l2), some (.int l3), l4] [] h ro ho := by
  refine xm_E_s r_X3_waysTo_2 rfl rfl ?_
  refine xm_E_s r_X3_waysTo_3 rfl rfl ?_
  refine xm_E_s r_X3_waysTo_4 rfl (xm_T_gi rfl q0 rfl (Or.inl rfl)) ?_
  refine xm_E_s r_X3_waysTo_5 rfl rfl ?_
  refine xm_E_f q1 ?_
  refine xm_E_s r_X3_waysTo_6 rfl rfl ?_
  refine xm_E_s r_X3_waysTo_7 rfl rfl ?_
  refine xm_E_s r_X3_waysTo_8 rfl rfl ?_
  refine xm_E_t q2 ?_
  refine xm_E_s r_X3_waysTo_39 rfl rfl ?_
  refine xm_E_s (ls1 := [some (.ref l0), some (.int l1), some (.int l2), some (.int (1 : Int32)), l4]) r_X3_waysTo_40 rfl rfl ?_
  exact K
theorem p_X3_waysTo_2_2 {X : xm_X} {P : List xm_M} {d : Nat} {h : xm_H} {l0 : Nat} {l1 : Int32} {l2 : Int32} {l3 : Int32} {l4 : Option Value} {v0 : Nat} {n1 : Nat} {v2 : Nat} {n3 : Nat} {v4 : Nat} {n5 : Nat} {ro : Option Value} {ho : xm_H} (q0 : X.1[l0]? = some (.inr 3)) (q1 : ¬ (h.1 l0 14 ≤ l3)) (q2 : ¬ ((640 : Int32) ≤ l3)) (q3 : h.2.2 l0 2 = some v0) (q4 : X.1[v0]? = some (.inl (0, n1))) (q5 : ¬ (l3 < 0 ∨ n1 ≤ l3.toNatClampNeg)) (q6 : h.1 v0 l3.toNatClampNeg = l1) (q7 : h.2.2 l0 9 = some v2) (q8 : X.1[v2]? = some (.inl (3, n3))) (q9 : ¬ (l3 < 0 ∨ n3 ≤ l3.toNatClampNeg)) (q10 : (xm_sl h v2 l3.toNatClampNeg (1 : Int64)).2.2 l0 8 = some v4) (q11 : X.1[v4]? = some (.inl (0, n5))) (q12 : ¬ (l3 < 0 ∨ n5 ≤ l3.toNatClampNeg)) (K : xm_E X P d co_X3_waysTo 2 [some (.ref l0), some (.int l1), some (.int l2), some (.int (l3 + (1 : Int32))), some (.int (1 : Int32))] [] (xm_si (xm_sl h v2 l3.toNatClampNeg (1 : Int64)) v4 l3.toNatClampNeg (1 : Int32)) ro ho) : xm_E X P d co_X3_waysTo 2 [some (.ref l0), some (.int l1), some (.int l2), some (.int l3), l4] [] h ro ho := by
  refine xm_E_s r_X3_waysTo_2 rfl rfl ?_
  refine xm_E_s r_X3_waysTo_3 rfl rfl ?_
  refine xm_E_s r_X3_waysTo_4 rfl (xm_T_gi rfl q0 rfl (Or.inl rfl)) ?_
  refine xm_E_s r_X3_waysTo_5 rfl rfl ?_
  refine xm_E_f q1 ?_
  refine xm_E_s r_X3_waysTo_6 rfl rfl ?_
  refine xm_E_s r_X3_waysTo_7 rfl rfl ?_
  refine xm_E_s r_X3_waysTo_8 rfl rfl ?_
  refine xm_E_f q2 ?_
  refine xm_E_s r_X3_waysTo_9 rfl rfl ?_
  refine xm_E_s r_X3_waysTo_10 rfl (xm_T_gr rfl q0 rfl rfl q3) ?_
  refine xm_E_s r_X3_waysTo_11 rfl rfl ?_
  refine xm_E_s r_X3_waysTo_12 rfl (xm_T_iald rfl q4 (by decide) q5) ?_
  refine xm_E_s r_X3_waysTo_13 rfl rfl ?_
  refine xm_E_s r_X3_waysTo_14 rfl rfl ?_
  refine xm_E_t q6 ?_
  refine xm_E_s r_X3_waysTo_15 rfl rfl ?_
  refine xm_E_s r_X3_waysTo_16 rfl rfl ?_
  refine xm_E_s (ls1 := [some (.ref l0), some (.int l1), some (.int l2), some (.int l3), some (.int (1 : Int32))]) r_X3_waysTo_18 rfl rfl ?_
  refine xm_E_s r_X3_waysTo_19 rfl rfl ?_
  refine xm_E_s r_X3_waysTo_20 rfl (xm_T_gr rfl q0 rfl rfl q7) ?_
  refine xm_E_s r_X3_waysTo_21 rfl rfl ?_
  refine xm_E_s r_X3_waysTo_22 rfl rfl ?_
  refine xm_E_s r_X3_waysTo_23 rfl rfl ?_
  show xm_E X P d co_X3_waysTo 24 _ _ _ _ _
  refine xm_E_s r_X3_waysTo_24 rfl rfl ?_
  refine xm_E_s r_X3_waysTo_25 rfl rfl ?_
  refine xm_E_s r_X3_waysTo_27 rfl (xm_T_last rfl q8 q9) ?_
  refine xm_E_s r_X3_waysTo_28 rfl rfl ?_
  refine xm_E_s r_X3_waysTo_29 rfl (xm_T_gr rfl q0 rfl rfl q10) ?_
  refine xm_E_s r_X3_waysTo_30 rfl rfl ?_
  refine xm_E_s r_X3_waysTo_31 rfl rfl ?_
  refine xm_E_s r_X3_waysTo_32 rfl rfl ?_
  show xm_E X P d co_X3_waysTo 33 _ _ _ _ _
  refine xm_E_s r_X3_waysTo_33 rfl rfl ?_
  refine xm_E_s r_X3_waysTo_34 rfl rfl ?_
  refine xm_E_s r_X3_waysTo_36 rfl (xm_T_asi rfl q11 q12) ?_
  refine xm_E_s (ls1 := [some (.ref l0), some (.int l1), some (.int l2), some (.int (l3 + (1 : Int32))), some (.int (1 : Int32))]) r_X3_waysTo_37 rfl rfl ?_
  refine xm_E_s r_X3_waysTo_38 rfl rfl ?_
  exact K
theorem p_X3_waysTo_2_3 {X : xm_X} {P : List xm_M} {d : Nat} {h : xm_H} {l0 : Nat} {l1 : Int32} {l2 : Int32} {l3 : Int32} {l4 : Option Value} {v0 : Nat} {n1 : Nat} {v2 : Nat} {n3 : Nat} {v4 : Nat} {n5 : Nat} {ro : Option Value} {ho : xm_H} (q0 : X.1[l0]? = some (.inr 3)) (q1 : ¬ (h.1 l0 14 ≤ l3)) (q2 : ¬ ((640 : Int32) ≤ l3)) (q3 : h.2.2 l0 2 = some v0) (q4 : X.1[v0]? = some (.inl (0, n1))) (q5 : ¬ (l3 < 0 ∨ n1 ≤ l3.toNatClampNeg)) (q6 : ¬ (h.1 v0 l3.toNatClampNeg = l1)) (q7 : h.2.2 l0 9 = some v2) (q8 : X.1[v2]? = some (.inl (3, n3))) (q9 : ¬ (l3 < 0 ∨ n3 ≤ l3.toNatClampNeg)) (q10 : (xm_sl h v2 l3.toNatClampNeg (0 : Int64)).2.2 l0 8 = some v4) (q11 : X.1[v4]? = some (.inl (0, n5))) (q12 : ¬ (l3 < 0 ∨ n5 ≤ l3.toNatClampNeg)) (K : xm_E X P d co_X3_waysTo 2 [some (.ref l0), some (.int l1), some (.int l2), some (.int (l3 + (1 : Int32))), some (.int (0 : Int32))] [] (xm_si (xm_sl h v2 l3.toNatClampNeg (0 : Int64)) v4 l3.toNatClampNeg (0 : Int32)) ro ho) : xm_E X P d co_X3_waysTo 2 [some (.ref l0), some (.int l1), some (.int l2), some (.int l3), l4] [] h ro ho := by
  refine xm_E_s r_X3_waysTo_2 rfl rfl ?_
  refine xm_E_s r_X3_waysTo_3 rfl rfl ?_
  refine xm_E_s r_X3_waysTo_4 rfl (xm_T_gi rfl q0 rfl (Or.inl rfl)) ?_
  refine xm_E_s r_X3_waysTo_5 rfl rfl ?_
  refine xm_E_f q1 ?_
  refine xm_E_s r_X3_waysTo_6 rfl rfl ?_
  refine xm_E_s r_X3_waysTo_7 rfl rfl ?_
  refine xm_E_s r_X3_waysTo_8 rfl rfl ?_
  refine xm_E_f q2 ?_
  refine xm_E_s r_X3_waysTo_9 rfl rfl ?_
  refine xm_E_s r_X3_waysTo_10 rfl (xm_T_gr rfl q0 rfl rfl q3) ?_
  refine xm_E_s r_X3_waysTo_11 rfl rfl ?_
  refine xm_E_s r_X3_waysTo_12 rfl (xm_T_iald rfl q4 (by decide) q5) ?_
  refine xm_E_s r_X3_waysTo_13 rfl rfl ?_
  refine xm_E_s r_X3_waysTo_14 rfl rfl ?_
  refine xm_E_f q6 ?_
  refine xm_E_s r_X3_waysTo_17 rfl rfl ?_
  refine xm_E_s (ls1 := [some (.ref l0), some (.int l1), some (.int l2), some (.int l3), some (.int (0 : Int32))]) r_X3_waysTo_18 rfl rfl ?_
  refine xm_E_s r_X3_waysTo_19 rfl rfl ?_
  refine xm_E_s r_X3_waysTo_20 rfl (xm_T_gr rfl q0 rfl rfl q7) ?_
  refine xm_E_s r_X3_waysTo_21 rfl rfl ?_
  refine xm_E_s r_X3_waysTo_22 rfl rfl ?_
  refine xm_E_s r_X3_waysTo_23 rfl rfl ?_
  show xm_E X P d co_X3_waysTo 26 _ _ _ _ _
  refine xm_E_s r_X3_waysTo_26 rfl rfl ?_
  refine xm_E_s r_X3_waysTo_27 rfl (xm_T_last rfl q8 q9) ?_
  refine xm_E_s r_X3_waysTo_28 rfl rfl ?_
  refine xm_E_s r_X3_waysTo_29 rfl (xm_T_gr rfl q0 rfl rfl q10) ?_
  refine xm_E_s r_X3_waysTo_30 rfl rfl ?_
  refine xm_E_s r_X3_waysTo_31 rfl rfl ?_
  refine xm_E_s r_X3_waysTo_32 rfl rfl ?_
  show xm_E X P d co_X3_waysTo 35 _ _ _ _ _
  refine xm_E_s r_X3_waysTo_35 rfl rfl ?_
  refine xm_E_s r_X3_waysTo_36 rfl (xm_T_asi rfl q11 q12) ?_
  refine xm_E_s (ls1 := [some (.ref l0), some (.int l1), some (.int l2), some (.int (l3 + (1 : Int32))), some (.int (0 : Int32))]) r_X3_waysTo_37 rfl rfl ?_
  refine xm_E_s r_X3_waysTo_38 rfl rfl ?_
  exact K
theorem p_X3_waysTo_41_0 {X : xm_X} {P : List xm_M} {d : Nat} {h : xm_H} {l0 : Nat} {l1 : Int32} {l2 : Int32} {l3 : Int32} {l4 : Option Value} (q0 : l2 < l3) (q1 : X.1[l0]? = some (.inr 3)) (q2 : h.1 l0 14 = (0 : Int32)) : xm_E X P d co_X3_waysTo 41 [some (.ref l0), some (.int l1), some (.int l2), some (.int l3), l4] [] h (some (.long (0 : Int64))) h := by
  refine xm_E_s r_X3_waysTo_41 rfl rfl ?_
  refine xm_E_s r_X3_waysTo_42 rfl rfl ?_
  refine xm_E_s r_X3_waysTo_43 rfl rfl ?_
  refine xm_E_t q0 ?_
  refine xm_E_s r_X3_waysTo_52 rfl rfl ?_
  refine xm_E_s r_X3_waysTo_53 rfl (xm_T_gi rfl q1 rfl (Or.inl rfl)) ?_
  refine xm_E_s r_X3_waysTo_54 rfl rfl ?_
  refine xm_E_t q2 ?_
  refine xm_E_s r_X3_waysTo_55 rfl rfl ?_
  refine xm_E_s r_X3_waysTo_56 rfl rfl ?_
  exact xm_E_lret r_X3_waysTo_61 rfl
theorem p_X3_waysTo_41_1 {X : xm_X} {P : List xm_M} {d : Nat} {h : xm_H} {l0 : Nat} {l1 : Int32} {l2 : Int32} {l3 : Int32} {l4 : Option Value} {v0 : Nat} {n1 : Nat} (q0 : l2 < l3) (q1 : X.1[l0]? = some (.inr 3)) (q2 : ¬ (h.1 l0 14 = (0 : Int32))) (q3 : h.2.2 l0 9 = some v0) (q4 : X.1[v0]? = some (.inl (3, n1))) (q5 : 0 < n1) : xm_E X P d co_X3_waysTo 41 [some (.ref l0), some (.int l1), some (.int l2), some (.int l3), l4] [] h (some (.long (h.2.1 v0 0))) h := by
  refine xm_E_s r_X3_waysTo_41 rfl rfl ?_
  refine xm_E_s r_X3_waysTo_42 rfl rfl ?_
  refine xm_E_s r_X3_waysTo_43 rfl rfl ?_
  refine xm_E_t q0 ?_
  refine xm_E_s r_X3_waysTo_52 rfl rfl ?_
  refine xm_E_s r_X3_waysTo_53 rfl (xm_T_gi rfl q1 rfl (Or.inl rfl)) ?_
  refine xm_E_s r_X3_waysTo_54 rfl rfl ?_
  refine xm_E_f q2 ?_
  refine xm_E_s r_X3_waysTo_57 rfl rfl ?_
  refine xm_E_s r_X3_waysTo_58 rfl (xm_T_gr rfl q1 rfl rfl q3) ?_
  refine xm_E_s r_X3_waysTo_59 rfl rfl ?_
  refine xm_E_s r_X3_waysTo_60 rfl (xm_T_lald rfl q4 (fun e => e.elim (fun e => absurd e (by decide)) (fun e => Nat.not_le.mpr q5 e))) ?_
  exact xm_E_lret r_X3_waysTo_61 rfl
theorem p_X3_waysTo_41_2 {X : xm_X} {P : List xm_M} {d : Nat} {h : xm_H} {l0 : Nat} {l1 : Int32} {l2 : Int32} {l3 : Int32} {l4 : Option Value} (q0 : ¬ (l2 < l3)) (q1 : (12 : Int32) < l3) (q2 : X.1[l0]? = some (.inr 3)) (q3 : h.1 l0 14 = (0 : Int32)) : xm_E X P d co_X3_waysTo 41 [some (.ref l0), some (.int l1), some (.int l2), some (.int l3), l4] [] h (some (.long (0 : Int64))) h := by
  refine xm_E_s r_X3_waysTo_41 rfl rfl ?_
  refine xm_E_s r_X3_waysTo_42 rfl rfl ?_
  refine xm_E_s r_X3_waysTo_43 rfl rfl ?_
  refine xm_E_f q0 ?_
  refine xm_E_s r_X3_waysTo_44 rfl rfl ?_
  refine xm_E_s r_X3_waysTo_45 rfl rfl ?_
  refine xm_E_s r_X3_waysTo_46 rfl rfl ?_
  refine xm_E_t q1 ?_
  refine xm_E_s r_X3_waysTo_52 rfl rfl ?_
  refine xm_E_s r_X3_waysTo_53 rfl (xm_T_gi rfl q2 rfl (Or.inl rfl)) ?_
  refine xm_E_s r_X3_waysTo_54 rfl rfl ?_
  refine xm_E_t q3 ?_
  refine xm_E_s r_X3_waysTo_55 rfl rfl ?_
  refine xm_E_s r_X3_waysTo_56 rfl rfl ?_
  exact xm_E_lret r_X3_waysTo_61 rfl
theorem p_X3_waysTo_41_3 {X : xm_X} {P : List xm_M} {d : Nat} {h : xm_H} {l0 : Nat} {l1 : Int32} {l2 : Int32} {l3 : Int32} {l4 : Option Value} {v0 : Nat} {n1 : Nat} (q0 : ¬ (l2 < l3)) (q1 : (12 : Int32) < l3) (q2 : X.1[l0]? = some (.inr 3)) (q3 : ¬ (h.1 l0 14 = (0 : Int32))) (q4 : h.2.2 l0 9 = some v0) (q5 : X.1[v0]? = some (.inl (3, n1))) (q6 : 0 < n1) : xm_E X P d co_X3_waysTo 41 [some (.ref l0), some (.int l1), some (.int l2), some (.int l3), l4] [] h (some (.long (h.2.1 v0 0))) h := by
  refine xm_E_s r_X3_waysTo_41 rfl rfl ?_
  refine xm_E_s r_X3_waysTo_42 rfl rfl ?_
  refine xm_E_s r_X3_waysTo_43 rfl rfl ?_
  refine xm_E_f q0 ?_
  refine xm_E_s r_X3_waysTo_44 rfl rfl ?_
  refine xm_E_s r_X3_waysTo_45 rfl rfl ?_
  refine xm_E_s r_X3_waysTo_46 rfl rfl ?_
  refine xm_E_t q1 ?_
  refine xm_E_s r_X3_waysTo_52 rfl rfl ?_
  refine xm_E_s r_X3_waysTo_53 rfl (xm_T_gi rfl q2 rfl (Or.inl rfl)) ?_
  refine xm_E_s r_X3_waysTo_54 rfl rfl ?_
  refine xm_E_f q3 ?_
  refine xm_E_s r_X3_waysTo_57 rfl rfl ?_
  refine xm_E_s r_X3_waysTo_58 rfl (xm_T_gr rfl q2 rfl rfl q4) ?_
  refine xm_E_s r_X3_waysTo_59 rfl rfl ?_
  refine xm_E_s r_X3_waysTo_60 rfl (xm_T_lald rfl q5 (fun e => e.elim (fun e => absurd e (by decide)) (fun e => Nat.not_le.mpr q6 e))) ?_
  exact xm_E_lret r_X3_waysTo_61 rfl
theorem p_X3_waysTo_41_4 {X : xm_X} {P : List xm_M} {d : Nat} {h : xm_H} {l0 : Nat} {l1 : Int32} {l2 : Int32} {l3 : Int32} {l4 : Option Value} {h0 : xm_H} {ro : Option Value} {ho : xm_H} (q0 : ¬ (l2 < l3)) (q1 : ¬ ((12 : Int32) < l3)) (q2 : xm_V X P d 119 [.ref l0, .int l3] h none h0) (q3 : X.1[l0]? = some (.inr 3)) (K : xm_E X P d co_X3_waysTo 41 [some (.ref l0), some (.int l1), some (.int l2), some (.int (l3 + (1 : Int32))), l4] [] h0 ro ho) : xm_E X P d co_X3_waysTo 41 [some (.ref l0), some (.int l1), some (.int l2), some (.int l3), l4] [] h ro ho := by
  refine xm_E_s r_X3_waysTo_41 rfl rfl ?_
  refine xm_E_s r_X3_waysTo_42 rfl rfl ?_
  refine xm_E_s r_X3_waysTo_43 rfl rfl ?_
  refine xm_E_f q0 ?_
  refine xm_E_s r_X3_waysTo_44 rfl rfl ?_
  refine xm_E_s r_X3_waysTo_45 rfl rfl ?_
  refine xm_E_s r_X3_waysTo_46 rfl rfl ?_
  refine xm_E_f q1 ?_
  refine xm_E_s r_X3_waysTo_47 rfl rfl ?_
  refine xm_E_s r_X3_waysTo_48 rfl rfl ?_
  refine xm_E_cv [.ref l0, .int l3] [] r_X3_waysTo_49 rfl rfl (Nat.le_of_ble_eq_true rfl) (xm_rc q3 (by decide)) rfl q2 ?_
  refine xm_E_s (ls1 := [some (.ref l0), some (.int l1), some (.int l2), some (.int (l3 + (1 : Int32))), l4]) r_X3_waysTo_50 rfl rfl ?_
  refine xm_E_s r_X3_waysTo_51 rfl rfl ?_
  exact K
theorem r_X3_lengthen_0 : co_X3_lengthen[0]? = some ((0, .iconst 0, 0, 0, 0, 0, 0, 0, []) : xm_I) := rfl
theorem r_X3_lengthen_1 : co_X3_lengthen[1]? = some ((1, .istore_n 2, 0, 0, 0, 0, 0, 0, []) : xm_I) := rfl
theorem r_X3_lengthen_2 : co_X3_lengthen[2]? = some ((2, .iload_n 2, 0, 0, 0, 0, 0, 0, []) : xm_I) := rfl
theorem r_X3_lengthen_3 : co_X3_lengthen[3]? = some ((3, .aload_n 0, 0, 0, 0, 0, 0, 0, []) : xm_I) := rfl
theorem r_X3_lengthen_4 : co_X3_lengthen[4]? = some ((4, .getfield 46, 354, 3, 14, 0, 0, 0, []) : xm_I) := rfl
theorem r_X3_lengthen_5 : co_X3_lengthen[5]? = some ((7, .if_icmp .ge 97, 0, 0, 61, 0, 0, 0, []) : xm_I) := rfl
theorem r_X3_lengthen_6 : co_X3_lengthen[6]? = some ((10, .iload_n 2, 0, 0, 0, 0, 0, 0, []) : xm_I) := rfl
theorem r_X3_lengthen_7 : co_X3_lengthen[7]? = some ((11, .sipush 640, 0, 0, 0, 0, 640, 0, []) : xm_I) := rfl
theorem r_X3_lengthen_8 : co_X3_lengthen[8]? = some ((14, .if_icmp .ge 90, 0, 0, 61, 0, 0, 0, []) : xm_I) := rfl
theorem r_X3_lengthen_9 : co_X3_lengthen[9]? = some ((17, .aload_n 0, 0, 0, 0, 0, 0, 0, []) : xm_I) := rfl
theorem r_X3_lengthen_10 : co_X3_lengthen[10]? = some ((18, .getfield 43, 350, 3, 10, 2, 0, 0, []) : xm_I) := rfl
theorem r_X3_lengthen_11 : co_X3_lengthen[11]? = some ((21, .iload_n 2, 0, 0, 0, 0, 0, 0, []) : xm_I) := rfl
theorem r_X3_lengthen_12 : co_X3_lengthen[12]? = some ((22, .lconst 0, 0, 0, 0, 0, 0, 0, []) : xm_I) := rfl
theorem r_X3_lengthen_13 : co_X3_lengthen[13]? = some ((23, .lastore, 0, 0, 0, 0, 0, 0, []) : xm_I) := rfl
theorem r_X3_lengthen_14 : co_X3_lengthen[14]? = some ((24, .iconst 0, 0, 0, 0, 0, 0, 0, []) : xm_I) := rfl
theorem r_X3_lengthen_15 : co_X3_lengthen[15]? = some ((25, .istore_n 3, 0, 0, 0, 0, 0, 0, []) : xm_I) := rfl
theorem r_X3_lengthen_16 : co_X3_lengthen[16]? = some ((26, .iload_n 3, 0, 0, 0, 0, 0, 0, []) : xm_I) := rfl
theorem r_X3_lengthen_17 : co_X3_lengthen[17]? = some ((27, .bipush 10, 0, 0, 0, 0, 10, 0, []) : xm_I) := rfl
theorem r_X3_lengthen_18 : co_X3_lengthen[18]? = some ((29, .if_icmp .ge 46, 0, 0, 42, 0, 0, 0, []) : xm_I) := rfl
theorem r_X3_lengthen_19 : co_X3_lengthen[19]? = some ((32, .aload_n 0, 0, 0, 0, 0, 0, 0, []) : xm_I) := rfl
theorem r_X3_lengthen_20 : co_X3_lengthen[20]? = some ((33, .iload_n 2, 0, 0, 0, 0, 0, 0, []) : xm_I) := rfl
theorem r_X3_lengthen_21 : co_X3_lengthen[21]? = some ((34, .iload_n 3, 0, 0, 0, 0, 0, 0, []) : xm_I) := rfl
theorem r_X3_lengthen_22 : co_X3_lengthen[22]? = some ((35, .invokevirtual 136, 960, 96, 3, 3, 0, 0, []) : xm_I) := rfl
theorem r_X3_lengthen_23 : co_X3_lengthen[23]? = some ((38, .istore 4, 0, 0, 0, 0, 0, 0, []) : xm_I) := rfl
theorem r_X3_lengthen_24 : co_X3_lengthen[24]? = some ((40, .iload 4, 0, 0, 0, 0, 0, 0, []) : xm_I) := rfl
theorem r_X3_lengthen_25 : co_X3_lengthen[25]? = some ((42, .ifCond .lt 27, 0, 0, 40, 0, 0, 0, []) : xm_I) := rfl
theorem r_X3_lengthen_26 : co_X3_lengthen[26]? = some ((45, .iload 4, 0, 0, 0, 0, 0, 0, []) : xm_I) := rfl
theorem r_X3_lengthen_27 : co_X3_lengthen[27]? = some ((47, .sipush 640, 0, 0, 0, 0, 640, 0, []) : xm_I) := rfl
theorem r_X3_lengthen_28 : co_X3_lengthen[28]? = some ((50, .if_icmp .ge 19, 0, 0, 40, 0, 0, 0, []) : xm_I) := rfl
theorem r_X3_lengthen_29 : co_X3_lengthen[29]? = some ((53, .aload_n 0, 0, 0, 0, 0, 0, 0, []) : xm_I) := rfl
theorem r_X3_lengthen_30 : co_X3_lengthen[30]? = some ((54, .getfield 43, 350, 3, 10, 2, 0, 0, []) : xm_I) := rfl
theorem r_X3_lengthen_31 : co_X3_lengthen[31]? = some ((57, .iload_n 2, 0, 0, 0, 0, 0, 0, []) : xm_I) := rfl
theorem r_X3_lengthen_32 : co_X3_lengthen[32]? = some ((58, .dup2, 0, 0, 0, 0, 0, 0, []) : xm_I) := rfl
theorem r_X3_lengthen_33 : co_X3_lengthen[33]? = some ((59, .laload, 0, 0, 0, 0, 0, 0, []) : xm_I) := rfl
theorem r_X3_lengthen_34 : co_X3_lengthen[34]? = some ((60, .aload_n 0, 0, 0, 0, 0, 0, 0, []) : xm_I) := rfl
theorem r_X3_lengthen_35 : co_X3_lengthen[35]? = some ((61, .getfield 39, 349, 3, 9, 2, 0, 0, []) : xm_I) := rfl
theorem r_X3_lengthen_36 : co_X3_lengthen[36]? = some ((64, .iload 4, 0, 0, 0, 0, 0, 0, []) : xm_I) := rfl
theorem r_X3_lengthen_37 : co_X3_lengthen[37]? = some ((66, .laload, 0, 0, 0, 0, 0, 0, []) : xm_I) := rfl
theorem r_X3_lengthen_38 : co_X3_lengthen[38]? = some ((67, .ladd, 0, 0, 0, 0, 0, 0, []) : xm_I) := rfl
theorem r_X3_lengthen_39 : co_X3_lengthen[39]? = some ((68, .lastore, 0, 0, 0, 0, 0, 0, []) : xm_I) := rfl
theorem r_X3_lengthen_40 : co_X3_lengthen[40]? = some ((69, .iinc 3 1, 0, 0, 0, 0, 1, 0, []) : xm_I) := rfl
theorem r_X3_lengthen_41 : co_X3_lengthen[41]? = some ((72, .goto (-46), 0, 0, 16, 0, 0, 0, []) : xm_I) := rfl
theorem r_X3_lengthen_42 : co_X3_lengthen[42]? = some ((75, .aload_n 0, 0, 0, 0, 0, 0, 0, []) : xm_I) := rfl
theorem r_X3_lengthen_43 : co_X3_lengthen[43]? = some ((76, .getfield 43, 350, 3, 10, 2, 0, 0, []) : xm_I) := rfl
theorem r_X3_lengthen_44 : co_X3_lengthen[44]? = some ((79, .iload_n 2, 0, 0, 0, 0, 0, 0, []) : xm_I) := rfl
theorem r_X3_lengthen_45 : co_X3_lengthen[45]? = some ((80, .laload, 0, 0, 0, 0, 0, 0, []) : xm_I) := rfl
theorem r_X3_lengthen_46 : co_X3_lengthen[46]? = some ((81, .lconst 0, 0, 0, 0, 0, 0, 0, []) : xm_I) := rfl
theorem r_X3_lengthen_47 : co_X3_lengthen[47]? = some ((82, .lcmp, 0, 0, 0, 0, 0, 0, []) : xm_I) := rfl
theorem r_X3_lengthen_48 : co_X3_lengthen[48]? = some ((83, .ifCond .le 15, 0, 0, 59, 0, 0, 0, []) : xm_I) := rfl
theorem r_X3_lengthen_49 : co_X3_lengthen[49]? = some ((86, .aload_n 0, 0, 0, 0, 0, 0, 0, []) : xm_I) := rfl
theorem r_X3_lengthen_50 : co_X3_lengthen[50]? = some ((87, .getfield 36, 348, 3, 8, 2, 0, 0, []) : xm_I) := rfl
theorem r_X3_lengthen_51 : co_X3_lengthen[51]? = some ((90, .iload_n 2, 0, 0, 0, 0, 0, 0, []) : xm_I) := rfl
theorem r_X3_lengthen_52 : co_X3_lengthen[52]? = some ((91, .dup2, 0, 0, 0, 0, 0, 0, []) : xm_I) := rfl
theorem r_X3_lengthen_53 : co_X3_lengthen[53]? = some ((92, .iaload, 0, 0, 0, 0, 0, 0, []) : xm_I) := rfl
theorem r_X3_lengthen_54 : co_X3_lengthen[54]? = some ((93, .iconst 1, 0, 0, 0, 0, 1, 0, []) : xm_I) := rfl
theorem r_X3_lengthen_55 : co_X3_lengthen[55]? = some ((94, .iload_n 1, 0, 0, 0, 0, 0, 0, []) : xm_I) := rfl
theorem r_X3_lengthen_56 : co_X3_lengthen[56]? = some ((95, .ishl, 0, 0, 0, 0, 0, 0, []) : xm_I) := rfl
theorem r_X3_lengthen_57 : co_X3_lengthen[57]? = some ((96, .ior, 0, 0, 0, 0, 0, 0, []) : xm_I) := rfl
theorem r_X3_lengthen_58 : co_X3_lengthen[58]? = some ((97, .iastore, 0, 0, 0, 0, 0, 0, []) : xm_I) := rfl
theorem r_X3_lengthen_59 : co_X3_lengthen[59]? = some ((98, .iinc 2 1, 0, 0, 0, 0, 1, 0, []) : xm_I) := rfl
theorem r_X3_lengthen_60 : co_X3_lengthen[60]? = some ((101, .goto (-99), 0, 0, 2, 0, 0, 0, []) : xm_I) := rfl
theorem r_X3_lengthen_61 : co_X3_lengthen[61]? = some ((104, .aload_n 0, 0, 0, 0, 0, 0, 0, []) : xm_I) := rfl
theorem r_X3_lengthen_62 : co_X3_lengthen[62]? = some ((105, .getfield 43, 350, 3, 10, 2, 0, 0, []) : xm_I) := rfl
theorem r_X3_lengthen_63 : co_X3_lengthen[63]? = some ((108, .iconst 0, 0, 0, 0, 0, 0, 0, []) : xm_I) := rfl
theorem r_X3_lengthen_64 : co_X3_lengthen[64]? = some ((109, .aload_n 0, 0, 0, 0, 0, 0, 0, []) : xm_I) := rfl
theorem r_X3_lengthen_65 : co_X3_lengthen[65]? = some ((110, .getfield 39, 349, 3, 9, 2, 0, 0, []) : xm_I) := rfl
theorem r_X3_lengthen_66 : co_X3_lengthen[66]? = some ((113, .iconst 0, 0, 0, 0, 0, 0, 0, []) : xm_I) := rfl
theorem r_X3_lengthen_67 : co_X3_lengthen[67]? = some ((114, .sipush 640, 0, 0, 0, 0, 640, 0, []) : xm_I) := rfl
theorem r_X3_lengthen_68 : co_X3_lengthen[68]? = some ((117, .invokestatic 152, 1062, 0, 0, 1, 0, 0, []) : xm_I) := rfl
theorem r_X3_lengthen_69 : co_X3_lengthen[69]? = some ((120, .return_, 0, 0, 0, 0, 0, 0, []) : xm_I) := rfl
theorem p_X3_lengthen_0_0 {X : xm_X} {P : List xm_M} {d : Nat} {h : xm_H} {l0 : Nat} {l1 : Int32} {ro : Option Value} {ho : xm_H}  (K : xm_E X P d co_X3_lengthen 2 [some (.ref l0), some (.int l1), some (.int (0 : Int32)), none, none] [] h ro ho) : xm_E X P d co_X3_lengthen 0 [some (.ref l0), some (.int l1), none, none, none] [] h ro ho := by
  refine xm_E_s r_X3_lengthen_0 rfl rfl ?_
  refine xm_E_s (ls1 := [some (.ref l0), some (.int l1), some (.int (0 : Int32)), none, none]) r_X3_lengthen_1 rfl rfl ?_
  exact K
theorem p_X3_lengthen_2_0 {X : xm_X} {P : List xm_M} {d : Nat} {h : xm_H} {l0 : Nat} {l1 : Int32} {l2 : Int32} {l3 : Option Value} {l4 : Option Value} {v0 : Nat} {v1 : Nat} {n2 : Nat} {n3 : Nat} (q0 : X.1[l0]? = some (.inr 3)) (q1 : h.1 l0 14 ≤ l2) (q2 : h.2.2 l0 10 = some v0) (q3 : h.2.2 l0 9 = some v1) (q4 : X.1[v0]? = some (.inl (3, n2))) (q5 : X.1[v1]? = some (.inl (3, n3))) (q6 : ¬ ((0 : Int32) < 0 ∨ (0 : Int32) < 0 ∨ (640 : Int32) < 0 ∨ n2 < (0 : Int32).toNatClampNeg + (640 : Int32).toNatClampNeg ∨ n3 < (0 : Int32).toNatClampNeg + (640 : Int32).toNatClampNeg ∨ 8 < (([] : List Value).map fun v => v.category).sum)) : xm_E X P d co_X3_lengthen 2 [some (.ref l0), some (.int l1), some (.int l2), l3, l4] [] h none (xm_cl_cpy h v0 v1 (0 : Int32).toNatClampNeg (0 : Int32).toNatClampNeg (640 : Int32).toNatClampNeg) := by
  refine xm_E_s r_X3_lengthen_2 rfl rfl ?_
  refine xm_E_s r_X3_lengthen_3 rfl rfl ?_
  refine xm_E_s r_X3_lengthen_4 rfl (xm_T_gi rfl q0 rfl (Or.inl rfl)) ?_
  refine xm_E_s r_X3_lengthen_5 rfl rfl ?_
  refine xm_E_t q1 ?_
  refine xm_E_s r_X3_lengthen_61 rfl rfl ?_
  refine xm_E_s r_X3_lengthen_62 rfl (xm_T_gr rfl q0 rfl rfl q2) ?_
  refine xm_E_s r_X3_lengthen_63 rfl rfl ?_
  refine xm_E_s r_X3_lengthen_64 rfl rfl ?_
  refine xm_E_s r_X3_lengthen_65 rfl (xm_T_gr rfl q0 rfl rfl q3) ?_
  refine xm_E_s r_X3_lengthen_66 rfl rfl ?_
  refine xm_E_s r_X3_lengthen_67 rfl rfl ?_
  refine xm_E_s r_X3_lengthen_68 rfl (xm_T_cpl rfl rfl q4 q5 q6) ?_
  exact xm_E_ret r_X3_lengthen_69 rfl
theorem p_X3_lengthen_2_1 {X : xm_X} {P : List xm_M} {d : Nat} {h : xm_H} {l0 : Nat} {l1 : Int32} {l2 : Int32} {l3 : Option Value} {l4 : Option Value} {v0 : Nat} {v1 : Nat} {n2 : Nat} {n3 : Nat} (q0 : X.1[l0]? = some (.inr 3)) (q1 : ¬ (h.1 l0 14 ≤ l2)) (q2 : (640 : Int32) ≤ l2) (q3 : h.2.2 l0 10 = some v0) (q4 : h.2.2 l0 9 = some v1) (q5 : X.1[v0]? = some (.inl (3, n2))) (q6 : X.1[v1]? = some (.inl (3, n3))) (q7 : ¬ ((0 : Int32) < 0 ∨ (0 : Int32) < 0 ∨ (640 : Int32) < 0 ∨ n2 < (0 : Int32).toNatClampNeg + (640 : Int32).toNatClampNeg ∨ n3 < (0 : Int32).toNatClampNeg + (640 : Int32).toNatClampNeg ∨ 8 < (([] : List Value).map fun v => v.category).sum)) : xm_E X P d co_X3_lengthen 2 [some (.ref l0), some (.int l1), some (.int l2), l3, l4] [] h none (xm_cl_cpy h v0 v1 (0 : Int32).toNatClampNeg (0 : Int32).toNatClampNeg (640 : Int32).toNatClampNeg) := by
  refine xm_E_s r_X3_lengthen_2 rfl rfl ?_
  refine xm_E_s r_X3_lengthen_3 rfl rfl ?_
  refine xm_E_s r_X3_lengthen_4 rfl (xm_T_gi rfl q0 rfl (Or.inl rfl)) ?_
  refine xm_E_s r_X3_lengthen_5 rfl rfl ?_
  refine xm_E_f q1 ?_
  refine xm_E_s r_X3_lengthen_6 rfl rfl ?_
  refine xm_E_s r_X3_lengthen_7 rfl rfl ?_
  refine xm_E_s r_X3_lengthen_8 rfl rfl ?_
  refine xm_E_t q2 ?_
  refine xm_E_s r_X3_lengthen_61 rfl rfl ?_
  refine xm_E_s r_X3_lengthen_62 rfl (xm_T_gr rfl q0 rfl rfl q3) ?_
  refine xm_E_s r_X3_lengthen_63 rfl rfl ?_
  refine xm_E_s r_X3_lengthen_64 rfl rfl ?_
  refine xm_E_s r_X3_lengthen_65 rfl (xm_T_gr rfl q0 rfl rfl q4) ?_
  refine xm_E_s r_X3_lengthen_66 rfl rfl ?_
  refine xm_E_s r_X3_lengthen_67 rfl rfl ?_
  refine xm_E_s r_X3_lengthen_68 rfl (xm_T_cpl rfl rfl q5 q6 q7) ?_
  exact xm_E_ret r_X3_lengthen_69 rfl
theorem p_X3_lengthen_2_2 {X : xm_X} {P : List xm_M} {d : Nat} {h : xm_H} {l0 : Nat} {l1 : Int32} {l2 : Int32} {l3 : Option Value} {l4 : Option Value} {v0 : Nat} {n1 : Nat} {ro : Option Value} {ho : xm_H} (q0 : X.1[l0]? = some (.inr 3)) (q1 : ¬ (h.1 l0 14 ≤ l2)) (q2 : ¬ ((640 : Int32) ≤ l2)) (q3 : h.2.2 l0 10 = some v0) (q4 : X.1[v0]? = some (.inl (3, n1))) (q5 : ¬ (l2 < 0 ∨ n1 ≤ l2.toNatClampNeg)) (K : xm_E X P d co_X3_lengthen 16 [some (.ref l0), some (.int l1), some (.int l2), some (.int (0 : Int32)), l4] [] (xm_sl h v0 l2.toNatClampNeg (0 : Int64)) ro ho) : xm_E X P d co_X3_lengthen 2 [some (.ref l0), some (.int l1), some (.int l2), l3, l4] [] h ro ho := by
  refine xm_E_s r_X3_lengthen_2 rfl rfl ?_
  refine xm_E_s r_X3_lengthen_3 rfl rfl ?_
  refine xm_E_s r_X3_lengthen_4 rfl (xm_T_gi rfl q0 rfl (Or.inl rfl)) ?_
  refine xm_E_s r_X3_lengthen_5 rfl rfl ?_
  refine xm_E_f q1 ?_
  refine xm_E_s r_X3_lengthen_6 rfl rfl ?_
  refine xm_E_s r_X3_lengthen_7 rfl rfl ?_
  refine xm_E_s r_X3_lengthen_8 rfl rfl ?_
  refine xm_E_f q2 ?_
  refine xm_E_s r_X3_lengthen_9 rfl rfl ?_
  refine xm_E_s r_X3_lengthen_10 rfl (xm_T_gr rfl q0 rfl rfl q3) ?_
  refine xm_E_s r_X3_lengthen_11 rfl rfl ?_
  refine xm_E_s r_X3_lengthen_12 rfl rfl ?_
  refine xm_E_s r_X3_lengthen_13 rfl (xm_T_last rfl q4 q5) ?_
  refine xm_E_s r_X3_lengthen_14 rfl rfl ?_
  refine xm_E_s (ls1 := [some (.ref l0), some (.int l1), some (.int l2), some (.int (0 : Int32)), l4]) r_X3_lengthen_15 rfl rfl ?_
  exact K
theorem p_X3_lengthen_16_0 {X : xm_X} {P : List xm_M} {d : Nat} {h : xm_H} {l0 : Nat} {l1 : Int32} {l2 : Int32} {l3 : Int32} {l4 : Option Value} {v0 : Nat} {n1 : Nat} {ro : Option Value} {ho : xm_H} (q0 : (10 : Int32) ≤ l3) (q1 : X.1[l0]? = some (.inr 3)) (q2 : h.2.2 l0 10 = some v0) (q3 : X.1[v0]? = some (.inl (3, n1))) (q4 : ¬ (l2 < 0 ∨ n1 ≤ l2.toNatClampNeg)) (q5 : lg_cmp (h.2.1 v0 l2.toNatClampNeg) (0 : Int64) ≤ (0 : Int32)) (K : xm_E X P d co_X3_lengthen 2 [some (.ref l0), some (.int l1), some (.int (l2 + (1 : Int32))), some (.int l3), l4] [] h ro ho) : xm_E X P d co_X3_lengthen 16 [some (.ref l0), some (.int l1), some (.int l2), some (.int l3), l4] [] h ro ho := by
  refine xm_E_s r_X3_lengthen_16 rfl rfl ?_
  refine xm_E_s r_X3_lengthen_17 rfl rfl ?_
  refine xm_E_s r_X3_lengthen_18 rfl rfl ?_
  refine xm_E_t q0 ?_
  refine xm_E_s r_X3_lengthen_42 rfl rfl ?_
  refine xm_E_s r_X3_lengthen_43 rfl (xm_T_gr rfl q1 rfl rfl q2) ?_
  refine xm_E_s r_X3_lengthen_44 rfl rfl ?_
  refine xm_E_s r_X3_lengthen_45 rfl (xm_T_lald rfl q3 q4) ?_
  refine xm_E_s r_X3_lengthen_46 rfl rfl ?_
  refine xm_E_s r_X3_lengthen_47 rfl rfl ?_
  refine xm_E_s r_X3_lengthen_48 rfl rfl ?_
  refine xm_E_t q5 ?_
  refine xm_E_s (ls1 := [some (.ref l0), some (.int l1), some (.int (l2 + (1 : Int32))), some (.int l3), l4]) r_X3_lengthen_59 rfl rfl ?_
  refine xm_E_s r_X3_lengthen_60 rfl rfl ?_
  exact K
theorem p_X3_lengthen_16_1 {X : xm_X} {P : List xm_M} {d : Nat} {h : xm_H} {l0 : Nat} {l1 : Int32} {l2 : Int32} {l3 : Int32} {l4 : Option Value} {v0 : Nat} {n1 : Nat} {v2 : Nat} {n3 : Nat} {ro : Option Value} {ho : xm_H} (q0 : (10 : Int32) ≤ l3) (q1 : X.1[l0]? = some (.inr 3)) (q2 : h.2.2 l0 10 = some v0) (q3 : X.1[v0]? = some (.inl (3, n1))) (q4 : ¬ (l2 < 0 ∨ n1 ≤ l2.toNatClampNeg)) (q5 : ¬ (lg_cmp (h.2.1 v0 l2.toNatClampNeg) (0 : Int64) ≤ (0 : Int32))) (q6 : h.2.2 l0 8 = some v2) (q7 : X.1[v2]? = some (.inl (0, n3))) (q8 : ¬ (l2 < 0 ∨ n3 ≤ l2.toNatClampNeg)) (K : xm_E X P d co_X3_lengthen 2 [some (.ref l0), some (.int l1), some (.int (l2 + (1 : Int32))), some (.int l3), l4] [] (xm_si h v2 l2.toNatClampNeg ((h.1 v2 l2.toNatClampNeg) ||| ((1 : Int32) <<< (l1 &&& 31)))) ro ho) : xm_E X P d co_X3_lengthen 16 [some (.ref l0), some (.int l1), some (.int l2), some (.int l3), l4] [] h ro ho := by
  refine xm_E_s r_X3_lengthen_16 rfl rfl ?_
  refine xm_E_s r_X3_lengthen_17 rfl rfl ?_
  refine xm_E_s r_X3_lengthen_18 rfl rfl ?_
  refine xm_E_t q0 ?_
  refine xm_E_s r_X3_lengthen_42 rfl rfl ?_
  refine xm_E_s r_X3_lengthen_43 rfl (xm_T_gr rfl q1 rfl rfl q2) ?_
  refine xm_E_s r_X3_lengthen_44 rfl rfl ?_
  refine xm_E_s r_X3_lengthen_45 rfl (xm_T_lald rfl q3 q4) ?_
  refine xm_E_s r_X3_lengthen_46 rfl rfl ?_
  refine xm_E_s r_X3_lengthen_47 rfl rfl ?_
  refine xm_E_s r_X3_lengthen_48 rfl rfl ?_
  refine xm_E_f q5 ?_
  refine xm_E_s r_X3_lengthen_49 rfl rfl ?_
  refine xm_E_s r_X3_lengthen_50 rfl (xm_T_gr rfl q1 rfl rfl q6) ?_
  refine xm_E_s r_X3_lengthen_51 rfl rfl ?_
  refine xm_E_s r_X3_lengthen_52 rfl rfl ?_
  refine xm_E_s r_X3_lengthen_53 rfl (xm_T_iald rfl q7 (by decide) q8) ?_
  refine xm_E_s r_X3_lengthen_54 rfl rfl ?_
  refine xm_E_s r_X3_lengthen_55 rfl rfl ?_
  refine xm_E_s r_X3_lengthen_56 rfl rfl ?_
  refine xm_E_s r_X3_lengthen_57 rfl rfl ?_
  refine xm_E_s r_X3_lengthen_58 rfl (xm_T_asi rfl q7 q8) ?_
  refine xm_E_s (ls1 := [some (.ref l0), some (.int l1), some (.int (l2 + (1 : Int32))), some (.int l3), l4]) r_X3_lengthen_59 rfl rfl ?_
  refine xm_E_s r_X3_lengthen_60 rfl rfl ?_
  exact K
theorem p_X3_lengthen_16_2 {X : xm_X} {P : List xm_M} {d : Nat} {h : xm_H} {l0 : Nat} {l1 : Int32} {l2 : Int32} {l3 : Int32} {l4 : Option Value} {h0 : xm_H} {r0 : Int32} {ro : Option Value} {ho : xm_H} (q0 : ¬ ((10 : Int32) ≤ l3)) (q1 : xm_V X P d 96 [.ref l0, .int l2, .int l3] h (some (.int r0)) h0) (q2 : X.1[l0]? = some (.inr 3)) (q3 : r0 < (0 : Int32)) (K : xm_E X P d co_X3_lengthen 16 [some (.ref l0), some (.int l1), some (.int l2), some (.int (l3 + (1 : Int32))), some (.int r0)] [] h0 ro ho) : xm_E X P d co_X3_lengthen 16 [some (.ref l0), some (.int l1), some (.int l2), some (.int l3), l4] [] h ro ho := by
  refine xm_E_s r_X3_lengthen_16 rfl rfl ?_
  refine xm_E_s r_X3_lengthen_17 rfl rfl ?_
  refine xm_E_s r_X3_lengthen_18 rfl rfl ?_
  refine xm_E_f q0 ?_
  refine xm_E_s r_X3_lengthen_19 rfl rfl ?_
  refine xm_E_s r_X3_lengthen_20 rfl rfl ?_
  refine xm_E_s r_X3_lengthen_21 rfl rfl ?_
  refine xm_E_cv [.ref l0, .int l2, .int l3] [] r_X3_lengthen_22 rfl rfl (Nat.le_of_ble_eq_true rfl) (xm_rc q2 (by decide)) rfl q1 ?_
  refine xm_E_s (ls1 := [some (.ref l0), some (.int l1), some (.int l2), some (.int l3), some (.int r0)]) r_X3_lengthen_23 rfl rfl ?_
  refine xm_E_s r_X3_lengthen_24 rfl rfl ?_
  refine xm_E_s r_X3_lengthen_25 rfl rfl ?_
  refine xm_E_t q3 ?_
  refine xm_E_s (ls1 := [some (.ref l0), some (.int l1), some (.int l2), some (.int (l3 + (1 : Int32))), some (.int r0)]) r_X3_lengthen_40 rfl rfl ?_
  refine xm_E_s r_X3_lengthen_41 rfl rfl ?_
  exact K
theorem p_X3_lengthen_16_3 {X : xm_X} {P : List xm_M} {d : Nat} {h : xm_H} {l0 : Nat} {l1 : Int32} {l2 : Int32} {l3 : Int32} {l4 : Option Value} {h0 : xm_H} {r0 : Int32} {ro : Option Value} {ho : xm_H} (q0 : ¬ ((10 : Int32) ≤ l3)) (q1 : xm_V X P d 96 [.ref l0, .int l2, .int l3] h (some (.int r0)) h0) (q2 : X.1[l0]? = some (.inr 3)) (q3 : ¬ (r0 < (0 : Int32))) (q4 : (640 : Int32) ≤ r0) (K : xm_E X P d co_X3_lengthen 16 [some (.ref l0), some (.int l1), some (.int l2), some (.int (l3 + (1 : Int32))), some (.int r0)] [] h0 ro ho) : xm_E X P d co_X3_lengthen 16 [some (.ref l0), some (.int l1), some (.int l2), some (.int l3), l4] [] h ro ho := by
  refine xm_E_s r_X3_lengthen_16 rfl rfl ?_
  refine xm_E_s r_X3_lengthen_17 rfl rfl ?_
  refine xm_E_s r_X3_lengthen_18 rfl rfl ?_
  refine xm_E_f q0 ?_
  refine xm_E_s r_X3_lengthen_19 rfl rfl ?_
  refine xm_E_s r_X3_lengthen_20 rfl rfl ?_
  refine xm_E_s r_X3_lengthen_21 rfl rfl ?_
  refine xm_E_cv [.ref l0, .int l2, .int l3] [] r_X3_lengthen_22 rfl rfl (Nat.le_of_ble_eq_true rfl) (xm_rc q2 (by decide)) rfl q1 ?_
  refine xm_E_s (ls1 := [some (.ref l0), some (.int l1), some (.int l2), some (.int l3), some (.int r0)]) r_X3_lengthen_23 rfl rfl ?_
  refine xm_E_s r_X3_lengthen_24 rfl rfl ?_
  refine xm_E_s r_X3_lengthen_25 rfl rfl ?_
  refine xm_E_f q3 ?_
  refine xm_E_s r_X3_lengthen_26 rfl rfl ?_
  refine xm_E_s r_X3_lengthen_27 rfl rfl ?_
  refine xm_E_s r_X3_lengthen_28 rfl rfl ?_
  refine xm_E_t q4 ?_
  refine xm_E_s (ls1 := [some (.ref l0), some (.int l1), some (.int l2), some (.int (l3 + (1 : Int32))), some (.int r0)]) r_X3_lengthen_40 rfl rfl ?_
  refine xm_E_s r_X3_lengthen_41 rfl rfl ?_
  exact K
theorem p_X3_lengthen_16_4 {X : xm_X} {P : List xm_M} {d : Nat} {h : xm_H} {l0 : Nat} {l1 : Int32} {l2 : Int32} {l3 : Int32} {l4 : Option Value} {h0 : xm_H} {r0 : Int32} {v1 : Nat} {n2 : Nat} {v3 : Nat} {n4 : Nat} {ro : Option Value} {ho : xm_H} (q0 : ¬ ((10 : Int32) ≤ l3)) (q1 : xm_V X P d 96 [.ref l0, .int l2, .int l3] h (some (.int r0)) h0) (q2 : X.1[l0]? = some (.inr 3)) (q3 : ¬ (r0 < (0 : Int32))) (q4 : ¬ ((640 : Int32) ≤ r0)) (q5 : h0.2.2 l0 10 = some v1) (q6 : X.1[v1]? = some (.inl (3, n2))) (q7 : ¬ (l2 < 0 ∨ n2 ≤ l2.toNatClampNeg)) (q8 : h0.2.2 l0 9 = some v3) (q9 : X.1[v3]? = some (.inl (3, n4))) (q10 : ¬ (r0 < 0 ∨ n4 ≤ r0.toNatClampNeg)) (K : xm_E X P d co_X3_lengthen 16 [some (.ref l0), some (.int l1), some (.int l2), some (.int (l3 + (1 : Int32))), some (.int r0)] [] (xm_sl h0 v1 l2.toNatClampNeg ((h0.2.1 v1 l2.toNatClampNeg) + (h0.2.1 v3 r0.toNatClampNeg))) ro ho) : xm_E X P d co_X3_lengthen 16 [some (.ref l0), some (.int l1), some (.int l2), some (.int l3), l4] [] h ro ho := by
  refine xm_E_s r_X3_lengthen_16 rfl rfl ?_
  refine xm_E_s r_X3_lengthen_17 rfl rfl ?_
  refine xm_E_s r_X3_lengthen_18 rfl rfl ?_
  refine xm_E_f q0 ?_
  refine xm_E_s r_X3_lengthen_19 rfl rfl ?_
  refine xm_E_s r_X3_lengthen_20 rfl rfl ?_
  refine xm_E_s r_X3_lengthen_21 rfl rfl ?_
  refine xm_E_cv [.ref l0, .int l2, .int l3] [] r_X3_lengthen_22 rfl rfl (Nat.le_of_ble_eq_true rfl) (xm_rc q2 (by decide)) rfl q1 ?_
  refine xm_E_s (ls1 := [some (.ref l0), some (.int l1), some (.int l2), some (.int l3), some (.int r0)]) r_X3_lengthen_23 rfl rfl ?_
  refine xm_E_s r_X3_lengthen_24 rfl rfl ?_
  refine xm_E_s r_X3_lengthen_25 rfl rfl ?_
  refine xm_E_f q3 ?_
  refine xm_E_s r_X3_lengthen_26 rfl rfl ?_
  refine xm_E_s r_X3_lengthen_27 rfl rfl ?_
  refine xm_E_s r_X3_lengthen_28 rfl rfl ?_
  refine xm_E_f q4 ?_
  refine xm_E_s r_X3_lengthen_29 rfl rfl ?_
  refine xm_E_s r_X3_lengthen_30 rfl (xm_T_gr rfl q2 rfl rfl q5) ?_
  refine xm_E_s r_X3_lengthen_31 rfl rfl ?_
  refine xm_E_s r_X3_lengthen_32 rfl rfl ?_
  refine xm_E_s r_X3_lengthen_33 rfl (xm_T_lald rfl q6 q7) ?_
  refine xm_E_s r_X3_lengthen_34 rfl rfl ?_
  refine xm_E_s r_X3_lengthen_35 rfl (xm_T_gr rfl q2 rfl rfl q8) ?_
  refine xm_E_s r_X3_lengthen_36 rfl rfl ?_
  refine xm_E_s r_X3_lengthen_37 rfl (xm_T_lald rfl q9 q10) ?_
  refine xm_E_s r_X3_lengthen_38 rfl rfl ?_
  refine xm_E_s r_X3_lengthen_39 rfl (xm_T_last rfl q6 q7) ?_
  refine xm_E_s (ls1 := [some (.ref l0), some (.int l1), some (.int l2), some (.int (l3 + (1 : Int32))), some (.int r0)]) r_X3_lengthen_40 rfl rfl ?_
  refine xm_E_s r_X3_lengthen_41 rfl rfl ?_
  exact K
theorem r_X3_wayMove_0 : co_X3_wayMove[0]? = some ((0, .iload_n 3, 0, 0, 0, 0, 0, 0, []) : xm_I) := rfl
theorem r_X3_wayMove_1 : co_X3_wayMove[1]? = some ((1, .ifCond .lt 19, 0, 0, 12, 0, 0, 0, []) : xm_I) := rfl
theorem r_X3_wayMove_2 : co_X3_wayMove[2]? = some ((4, .iload_n 3, 0, 0, 0, 0, 0, 0, []) : xm_I) := rfl
theorem r_X3_wayMove_3 : co_X3_wayMove[3]? = some ((5, .iload_n 2, 0, 0, 0, 0, 0, 0, []) : xm_I) := rfl
theorem r_X3_wayMove_4 : co_X3_wayMove[4]? = some ((6, .if_icmp .ge 14, 0, 0, 12, 0, 0, 0, []) : xm_I) := rfl
theorem r_X3_wayMove_5 : co_X3_wayMove[5]? = some ((9, .aload_n 0, 0, 0, 0, 0, 0, 0, []) : xm_I) := rfl
theorem r_X3_wayMove_6 : co_X3_wayMove[6]? = some ((10, .iload_n 1, 0, 0, 0, 0, 0, 0, []) : xm_I) := rfl
theorem r_X3_wayMove_7 : co_X3_wayMove[7]? = some ((11, .iload_n 2, 0, 0, 0, 0, 0, 0, []) : xm_I) := rfl
theorem r_X3_wayMove_8 : co_X3_wayMove[8]? = some ((12, .invokevirtual 158, 1073, 118, 3, 3, 0, 0, []) : xm_I) := rfl
theorem r_X3_wayMove_9 : co_X3_wayMove[9]? = some ((15, .lconst 0, 0, 0, 0, 0, 0, 0, []) : xm_I) := rfl
theorem r_X3_wayMove_10 : co_X3_wayMove[10]? = some ((16, .lcmp, 0, 0, 0, 0, 0, 0, []) : xm_I) := rfl
theorem r_X3_wayMove_11 : co_X3_wayMove[11]? = some ((17, .ifCond .ne 5, 0, 0, 14, 0, 0, 0, []) : xm_I) := rfl
theorem r_X3_wayMove_12 : co_X3_wayMove[12]? = some ((20, .iconst (-1), 0, 0, 0, 0, (-1), 0, []) : xm_I) := rfl
theorem r_X3_wayMove_13 : co_X3_wayMove[13]? = some ((21, .ireturn, 0, 0, 0, 0, 0, 0, []) : xm_I) := rfl
theorem r_X3_wayMove_14 : co_X3_wayMove[14]? = some ((22, .iconst 0, 0, 0, 0, 0, 0, 0, []) : xm_I) := rfl
theorem r_X3_wayMove_15 : co_X3_wayMove[15]? = some ((23, .istore 4, 0, 0, 0, 0, 0, 0, []) : xm_I) := rfl
theorem r_X3_wayMove_16 : co_X3_wayMove[16]? = some ((25, .iload_n 2, 0, 0, 0, 0, 0, 0, []) : xm_I) := rfl
theorem r_X3_wayMove_17 : co_X3_wayMove[17]? = some ((26, .iconst 1, 0, 0, 0, 0, 1, 0, []) : xm_I) := rfl
theorem r_X3_wayMove_18 : co_X3_wayMove[18]? = some ((27, .isub, 0, 0, 0, 0, 0, 0, []) : xm_I) := rfl
theorem r_X3_wayMove_19 : co_X3_wayMove[19]? = some ((28, .istore 5, 0, 0, 0, 0, 0, 0, []) : xm_I) := rfl
theorem r_X3_wayMove_20 : co_X3_wayMove[20]? = some ((30, .iload 5, 0, 0, 0, 0, 0, 0, []) : xm_I) := rfl
theorem r_X3_wayMove_21 : co_X3_wayMove[21]? = some ((32, .ifCond .lt 61, 0, 0, 51, 0, 0, 0, []) : xm_I) := rfl
theorem r_X3_wayMove_22 : co_X3_wayMove[22]? = some ((35, .iload 4, 0, 0, 0, 0, 0, 0, []) : xm_I) := rfl
theorem r_X3_wayMove_23 : co_X3_wayMove[23]? = some ((37, .ifCond .lt 56, 0, 0, 51, 0, 0, 0, []) : xm_I) := rfl
theorem r_X3_wayMove_24 : co_X3_wayMove[24]? = some ((40, .iload 4, 0, 0, 0, 0, 0, 0, []) : xm_I) := rfl
theorem r_X3_wayMove_25 : co_X3_wayMove[25]? = some ((42, .sipush 640, 0, 0, 0, 0, 640, 0, []) : xm_I) := rfl
theorem r_X3_wayMove_26 : co_X3_wayMove[26]? = some ((45, .if_icmp .ge 48, 0, 0, 51, 0, 0, 0, []) : xm_I) := rfl
theorem r_X3_wayMove_27 : co_X3_wayMove[27]? = some ((48, .aload_n 0, 0, 0, 0, 0, 0, 0, []) : xm_I) := rfl
theorem r_X3_wayMove_28 : co_X3_wayMove[28]? = some ((49, .iload 4, 0, 0, 0, 0, 0, 0, []) : xm_I) := rfl
theorem r_X3_wayMove_29 : co_X3_wayMove[29]? = some ((51, .iload 5, 0, 0, 0, 0, 0, 0, []) : xm_I) := rfl
theorem r_X3_wayMove_30 : co_X3_wayMove[30]? = some ((53, .invokevirtual 162, 1074, 122, 3, 3, 0, 0, []) : xm_I) := rfl
theorem r_X3_wayMove_31 : co_X3_wayMove[31]? = some ((56, .istore 6, 0, 0, 0, 0, 0, 0, []) : xm_I) := rfl
theorem r_X3_wayMove_32 : co_X3_wayMove[32]? = some ((58, .iload 6, 0, 0, 0, 0, 0, 0, []) : xm_I) := rfl
theorem r_X3_wayMove_33 : co_X3_wayMove[33]? = some ((60, .iconst (-1), 0, 0, 0, 0, (-1), 0, []) : xm_I) := rfl
theorem r_X3_wayMove_34 : co_X3_wayMove[34]? = some ((61, .if_icmp .eq 13, 0, 0, 42, 0, 0, 0, []) : xm_I) := rfl
theorem r_X3_wayMove_35 : co_X3_wayMove[35]? = some ((64, .iload_n 2, 0, 0, 0, 0, 0, 0, []) : xm_I) := rfl
theorem r_X3_wayMove_36 : co_X3_wayMove[36]? = some ((65, .iconst 1, 0, 0, 0, 0, 1, 0, []) : xm_I) := rfl
theorem r_X3_wayMove_37 : co_X3_wayMove[37]? = some ((66, .isub, 0, 0, 0, 0, 0, 0, []) : xm_I) := rfl
theorem r_X3_wayMove_38 : co_X3_wayMove[38]? = some ((67, .iload 5, 0, 0, 0, 0, 0, 0, []) : xm_I) := rfl
theorem r_X3_wayMove_39 : co_X3_wayMove[39]? = some ((69, .isub, 0, 0, 0, 0, 0, 0, []) : xm_I) := rfl
theorem r_X3_wayMove_40 : co_X3_wayMove[40]? = some ((70, .iload_n 3, 0, 0, 0, 0, 0, 0, []) : xm_I) := rfl
theorem r_X3_wayMove_41 : co_X3_wayMove[41]? = some ((71, .if_icmp .ne 6, 0, 0, 44, 0, 0, 0, []) : xm_I) := rfl
theorem r_X3_wayMove_42 : co_X3_wayMove[42]? = some ((74, .iload 6, 0, 0, 0, 0, 0, 0, []) : xm_I) := rfl
theorem r_X3_wayMove_43 : co_X3_wayMove[43]? = some ((76, .ireturn, 0, 0, 0, 0, 0, 0, []) : xm_I) := rfl
theorem r_X3_wayMove_44 : co_X3_wayMove[44]? = some ((77, .aload_n 0, 0, 0, 0, 0, 0, 0, []) : xm_I) := rfl
theorem r_X3_wayMove_45 : co_X3_wayMove[45]? = some ((78, .iload 4, 0, 0, 0, 0, 0, 0, []) : xm_I) := rfl
theorem r_X3_wayMove_46 : co_X3_wayMove[46]? = some ((80, .iload 6, 0, 0, 0, 0, 0, 0, []) : xm_I) := rfl
theorem r_X3_wayMove_47 : co_X3_wayMove[47]? = some ((82, .invokevirtual 136, 960, 96, 3, 3, 0, 0, []) : xm_I) := rfl
theorem r_X3_wayMove_48 : co_X3_wayMove[48]? = some ((85, .istore 4, 0, 0, 0, 0, 0, 0, []) : xm_I) := rfl
theorem r_X3_wayMove_49 : co_X3_wayMove[49]? = some ((87, .iinc 5 (-1), 0, 0, 0, 0, (-1), 0, []) : xm_I) := rfl
theorem r_X3_wayMove_50 : co_X3_wayMove[50]? = some ((90, .goto (-60), 0, 0, 20, 0, 0, 0, []) : xm_I) := rfl
theorem r_X3_wayMove_51 : co_X3_wayMove[51]? = some ((93, .iconst (-1), 0, 0, 0, 0, (-1), 0, []) : xm_I) := rfl
theorem r_X3_wayMove_52 : co_X3_wayMove[52]? = some ((94, .ireturn, 0, 0, 0, 0, 0, 0, []) : xm_I) := rfl
theorem p_X3_wayMove_0_0 {X : xm_X} {P : List xm_M} {d : Nat} {h : xm_H} {l0 : Nat} {l1 : Int32} {l2 : Int32} {l3 : Int32} (q0 : l3 < (0 : Int32)) : xm_E X P d co_X3_wayMove 0 [some (.ref l0), some (.int l1), some (.int l2), some (.int l3), none, none, none] [] h (some (.int (-1 : Int32))) h := by
  refine xm_E_s r_X3_wayMove_0 rfl rfl ?_
  refine xm_E_s r_X3_wayMove_1 rfl rfl ?_
  refine xm_E_t q0 ?_
  refine xm_E_s r_X3_wayMove_12 rfl rfl ?_
  exact xm_E_iret r_X3_wayMove_13 rfl rfl
theorem p_X3_wayMove_0_1 {X : xm_X} {P : List xm_M} {d : Nat} {h : xm_H} {l0 : Nat} {l1 : Int32} {l2 : Int32} {l3 : Int32} (q0 : ¬ (l3 < (0 : Int32))) (q1 : l2 ≤ l3) : xm_E X P d co_X3_wayMove 0 [some (.ref l0), some (.int l1), some (.int l2), some (.int l3), none, none, none] [] h (some (.int (-1 : Int32))) h := by
  refine xm_E_s r_X3_wayMove_0 rfl rfl ?_
  refine xm_E_s r_X3_wayMove_1 rfl rfl ?_
  refine xm_E_f q0 ?_
  refine xm_E_s r_X3_wayMove_2 rfl rfl ?_
  refine xm_E_s r_X3_wayMove_3 rfl rfl ?_
  refine xm_E_s r_X3_wayMove_4 rfl rfl ?_
  refine xm_E_t q1 ?_
  refine xm_E_s r_X3_wayMove_12 rfl rfl ?_
  exact xm_E_iret r_X3_wayMove_13 rfl rfl
theorem p_X3_wayMove_0_2 {X : xm_X} {P : List xm_M} {d : Nat} {h : xm_H} {l0 : Nat} {l1 : Int32} {l2 : Int32} {l3 : Int32} {h0 : xm_H} {r0 : Int64} (q0 : ¬ (l3 < (0 : Int32))) (q1 : ¬ (l2 ≤ l3)) (q2 : xm_V X P d 118 [.ref l0, .int l1, .int l2] h (some (.long r0)) h0) (q3 : X.1[l0]? = some (.inr 3)) (q4 : lg_cmp r0 (0 : Int64) = (0 : Int32)) : xm_E X P d co_X3_wayMove 0 [some (.ref l0), some (.int l1), some (.int l2), some (.int l3), none, none, none] [] h (some (.int (-1 : Int32))) h0 := by
  refine xm_E_s r_X3_wayMove_0 rfl rfl ?_
  refine xm_E_s r_X3_wayMove_1 rfl rfl ?_
  refine xm_E_f q0 ?_
  refine xm_E_s r_X3_wayMove_2 rfl rfl ?_
  refine xm_E_s r_X3_wayMove_3 rfl rfl ?_
  refine xm_E_s r_X3_wayMove_4 rfl rfl ?_
  refine xm_E_f q1 ?_
  refine xm_E_s r_X3_wayMove_5 rfl rfl ?_
  refine xm_E_s r_X3_wayMove_6 rfl rfl ?_
  refine xm_E_s r_X3_wayMove_7 rfl rfl ?_
  refine xm_E_cv [.ref l0, .int l1, .int l2] [] r_X3_wayMove_8 rfl rfl (Nat.le_of_ble_eq_true rfl) (xm_rc q3 (by decide)) rfl q2 ?_
  refine xm_E_s r_X3_wayMove_9 rfl rfl ?_
  refine xm_E_s r_X3_wayMove_10 rfl rfl ?_
  refine xm_E_s r_X3_wayMove_11 rfl rfl ?_
  refine xm_E_t q4 ?_
  refine xm_E_s r_X3_wayMove_12 rfl rfl ?_
  exact xm_E_iret r_X3_wayMove_13 rfl rfl
theorem p_X3_wayMove_0_3 {X : xm_X} {P : List xm_M} {d : Nat} {h : xm_H} {l0 : Nat} {l1 : Int32} {l2 : Int32} {l3 : Int32} {h0 : xm_H} {r0 : Int64} {ro : Option Value} {ho : xm_H} (q0 : ¬ (l3 < (0 : Int32))) (q1 : ¬ (l2 ≤ l3)) (q2 : xm_V X P d 118 [.ref l0, .int l1, .int l2] h (some (.long r0)) h0) (q3 : X.1[l0]? = some (.inr 3)) (q4 : ¬ (lg_cmp r0 (0 : Int64) = (0 : Int32))) (K : xm_E X P d co_X3_wayMove 20 [some (.ref l0), some (.int l1), some (.int l2), some (.int l3), some (.int (0 : Int32)), some (.int (l2 - (1 : Int32))), none] [] h0 ro ho) : xm_E X P d co_X3_wayMove 0 [some (.ref l0), some (.int l1), some (.int l2), some (.int l3), none, none, none] [] h ro ho := by
  refine xm_E_s r_X3_wayMove_0 rfl rfl ?_
  refine xm_E_s r_X3_wayMove_1 rfl rfl ?_
  refine xm_E_f q0 ?_
  refine xm_E_s r_X3_wayMove_2 rfl rfl ?_
  refine xm_E_s r_X3_wayMove_3 rfl rfl ?_
  refine xm_E_s r_X3_wayMove_4 rfl rfl ?_
  refine xm_E_f q1 ?_
  refine xm_E_s r_X3_wayMove_5 rfl rfl ?_
  refine xm_E_s r_X3_wayMove_6 rfl rfl ?_
  refine xm_E_s r_X3_wayMove_7 rfl rfl ?_
  refine xm_E_cv [.ref l0, .int l1, .int l2] [] r_X3_wayMove_8 rfl rfl (Nat.le_of_ble_eq_true rfl) (xm_rc q3 (by decide)) rfl q2 ?_
  refine xm_E_s r_X3_wayMove_9 rfl rfl ?_
  refine xm_E_s r_X3_wayMove_10 rfl rfl ?_
  refine xm_E_s r_X3_wayMove_11 rfl rfl ?_
  refine xm_E_f q4 ?_
  refine xm_E_s r_X3_wayMove_14 rfl rfl ?_
  refine xm_E_s (ls1 := [some (.ref l0), some (.int l1), some (.int l2), some (.int l3), some (.int (0 : Int32)), none, none]) r_X3_wayMove_15 rfl rfl ?_
  refine xm_E_s r_X3_wayMove_16 rfl rfl ?_
  refine xm_E_s r_X3_wayMove_17 rfl rfl ?_
  refine xm_E_s r_X3_wayMove_18 rfl rfl ?_
  refine xm_E_s (ls1 := [some (.ref l0), some (.int l1), some (.int l2), some (.int l3), some (.int (0 : Int32)), some (.int (l2 - (1 : Int32))), none]) r_X3_wayMove_19 rfl rfl ?_
  exact K
theorem p_X3_wayMove_20_0 {X : xm_X} {P : List xm_M} {d : Nat} {h : xm_H} {l0 : Nat} {l1 : Int32} {l2 : Int32} {l3 : Int32} {l4 : Int32} {l5 : Int32} {l6 : Option Value} (q0 : l5 < (0 : Int32)) : xm_E X P d co_X3_wayMove 20 [some (.ref l0), some (.int l1), some (.int l2), some (.int l3), some (.int l4), some (.int l5), l6] [] h (some (.int (-1 : Int32))) h := by
  refine xm_E_s r_X3_wayMove_20 rfl rfl ?_
  refine xm_E_s r_X3_wayMove_21 rfl rfl ?_
  refine xm_E_t q0 ?_
  refine xm_E_s r_X3_wayMove_51 rfl rfl ?_
  exact xm_E_iret r_X3_wayMove_52 rfl rfl
theorem p_X3_wayMove_20_1 {X : xm_X} {P : List xm_M} {d : Nat} {h : xm_H} {l0 : Nat} {l1 : Int32} {l2 : Int32} {l3 : Int32} {l4 : Int32} {l5 : Int32} {l6 : Option Value} (q0 : ¬ (l5 < (0 : Int32))) (q1 : l4 < (0 : Int32)) : xm_E X P d co_X3_wayMove 20 [some (.ref l0), some (.int l1), some (.int l2), some (.int l3), some (.int l4), some (.int l5), l6] [] h (some (.int (-1 : Int32))) h := by
  refine xm_E_s r_X3_wayMove_20 rfl rfl ?_
  refine xm_E_s r_X3_wayMove_21 rfl rfl ?_
  refine xm_E_f q0 ?_
  refine xm_E_s r_X3_wayMove_22 rfl rfl ?_
  refine xm_E_s r_X3_wayMove_23 rfl rfl ?_
  refine xm_E_t q1 ?_
  refine xm_E_s r_X3_wayMove_51 rfl rfl ?_
  exact xm_E_iret r_X3_wayMove_52 rfl rfl
theorem p_X3_wayMove_20_2 {X : xm_X} {P : List xm_M} {d : Nat} {h : xm_H} {l0 : Nat} {l1 : Int32} {l2 : Int32} {l3 : Int32} {l4 : Int32} {l5 : Int32} {l6 : Option Value} (q0 : ¬ (l5 < (0 : Int32))) (q1 : ¬ (l4 < (0 : Int32))) (q2 : (640 : Int32) ≤ l4) : xm_E X P d co_X3_wayMove 20 [some (.ref l0), some (.int l1), some (.int l2), some (.int l3), some (.int l4), some (.int l5), l6] [] h (some (.int (-1 : Int32))) h := by
  refine xm_E_s r_X3_wayMove_20 rfl rfl ?_
  refine xm_E_s r_X3_wayMove_21 rfl rfl ?_
  refine xm_E_f q0 ?_
  refine xm_E_s r_X3_wayMove_22 rfl rfl ?_
  refine xm_E_s r_X3_wayMove_23 rfl rfl ?_
  refine xm_E_f q1 ?_
  refine xm_E_s r_X3_wayMove_24 rfl rfl ?_
  refine xm_E_s r_X3_wayMove_25 rfl rfl ?_
  refine xm_E_s r_X3_wayMove_26 rfl rfl ?_
  refine xm_E_t q2 ?_
  refine xm_E_s r_X3_wayMove_51 rfl rfl ?_
  exact xm_E_iret r_X3_wayMove_52 rfl rfl
theorem p_X3_wayMove_20_3 {X : xm_X} {P : List xm_M} {d : Nat} {h : xm_H} {l0 : Nat} {l1 : Int32} {l2 : Int32} {l3 : Int32} {l4 : Int32} {l5 : Int32} {l6 : Option Value} {h0 : xm_H} {r0 : Int32} (q0 : ¬ (l5 < (0 : Int32))) (q1 : ¬ (l4 < (0 : Int32))) (q2 : ¬ ((640 : Int32) ≤ l4)) (q3 : xm_V X P d 122 [.ref l0, .int l4, .int l5] h (some (.int r0)) h0) (q4 : X.1[l0]? = some (.inr 3)) (q5 : r0 = (-1 : Int32)) : xm_E X P d co_X3_wayMove 20 [some (.ref l0), some (.int l1), some (.int l2), some (.int l3), some (.int l4), some (.int l5), l6] [] h (some (.int r0)) h0 := by
  refine xm_E_s r_X3_wayMove_20 rfl rfl ?_
  refine xm_E_s r_X3_wayMove_21 rfl rfl ?_
  refine xm_E_f q0 ?_
  refine xm_E_s r_X3_wayMove_22 rfl rfl ?_
  refine xm_E_s r_X3_wayMove_23 rfl rfl ?_
  refine xm_E_f q1 ?_
  refine xm_E_s r_X3_wayMove_24 rfl rfl ?_
  refine xm_E_s r_X3_wayMove_25 rfl rfl ?_
  refine xm_E_s r_X3_wayMove_26 rfl rfl ?_
  refine xm_E_f q2 ?_
  refine xm_E_s r_X3_wayMove_27 rfl rfl ?_
  refine xm_E_s r_X3_wayMove_28 rfl rfl ?_
  refine xm_E_s r_X3_wayMove_29 rfl rfl ?_
  refine xm_E_cv [.ref l0, .int l4, .int l5] [] r_X3_wayMove_30 rfl rfl (Nat.le_of_ble_eq_true rfl) (xm_rc q4 (by decide)) rfl q3 ?_
  refine xm_E_s (ls1 := [some (.ref l0), some (.int l1), some (.int l2), some (.int l3), some (.int l4), some (.int l5), some (.int r0)]) r_X3_wayMove_31 rfl rfl ?_
  refine xm_E_s r_X3_wayMove_32 rfl rfl ?_
  refine xm_E_s r_X3_wayMove_33 rfl rfl ?_
  refine xm_E_s r_X3_wayMove_34 rfl rfl ?_
  refine xm_E_t q5 ?_
  refine xm_E_s r_X3_wayMove_42 rfl rfl ?_
  exact xm_E_iret r_X3_wayMove_43 rfl rfl
theorem p_X3_wayMove_20_4 {X : xm_X} {P : List xm_M} {d : Nat} {h : xm_H} {l0 : Nat} {l1 : Int32} {l2 : Int32} {l3 : Int32} {l4 : Int32} {l5 : Int32} {l6 : Option Value} {h0 : xm_H} {r0 : Int32} (q0 : ¬ (l5 < (0 : Int32))) (q1 : ¬ (l4 < (0 : Int32))) (q2 : ¬ ((640 : Int32) ≤ l4)) (q3 : xm_V X P d 122 [.ref l0, .int l4, .int l5] h (some (.int r0)) h0) (q4 : X.1[l0]? = some (.inr 3)) (q5 : ¬ (r0 = (-1 : Int32))) (q6 : (l2 - (1 : Int32)) - l5 = l3) : xm_E X P d co_X3_wayMove 20 [some (.ref l0), some (.int l1), some (.int l2), some (.int l3), some (.int l4), some (.int l5), l6] [] h (some (.int r0)) h0 := by
  refine xm_E_s r_X3_wayMove_20 rfl rfl ?_
  refine xm_E_s r_X3_wayMove_21 rfl rfl ?_
  refine xm_E_f q0 ?_
  refine xm_E_s r_X3_wayMove_22 rfl rfl ?_
  refine xm_E_s r_X3_wayMove_23 rfl rfl ?_
  refine xm_E_f q1 ?_
  refine xm_E_s r_X3_wayMove_24 rfl rfl ?_
  refine xm_E_s r_X3_wayMove_25 rfl rfl ?_
  refine xm_E_s r_X3_wayMove_26 rfl rfl ?_
  refine xm_E_f q2 ?_
  refine xm_E_s r_X3_wayMove_27 rfl rfl ?_
  refine xm_E_s r_X3_wayMove_28 rfl rfl ?_
  refine xm_E_s r_X3_wayMove_29 rfl rfl ?_
  refine xm_E_cv [.ref l0, .int l4, .int l5] [] r_X3_wayMove_30 rfl rfl (Nat.le_of_ble_eq_true rfl) (xm_rc q4 (by decide)) rfl q3 ?_
  refine xm_E_s (ls1 := [some (.ref l0), some (.int l1), some (.int l2), some (.int l3), some (.int l4), some (.int l5), some (.int r0)]) r_X3_wayMove_31 rfl rfl ?_
  refine xm_E_s r_X3_wayMove_32 rfl rfl ?_
  refine xm_E_s r_X3_wayMove_33 rfl rfl ?_
  refine xm_E_s r_X3_wayMove_34 rfl rfl ?_
  refine xm_E_f q5 ?_
  refine xm_E_s r_X3_wayMove_35 rfl rfl ?_
  refine xm_E_s r_X3_wayMove_36 rfl rfl ?_
  refine xm_E_s r_X3_wayMove_37 rfl rfl ?_
  refine xm_E_s r_X3_wayMove_38 rfl rfl ?_
  refine xm_E_s r_X3_wayMove_39 rfl rfl ?_
  refine xm_E_s r_X3_wayMove_40 rfl rfl ?_
  refine xm_E_s r_X3_wayMove_41 rfl rfl ?_
  refine xm_E_t q6 ?_
  refine xm_E_s r_X3_wayMove_42 rfl rfl ?_
  exact xm_E_iret r_X3_wayMove_43 rfl rfl
theorem p_X3_wayMove_20_5 {X : xm_X} {P : List xm_M} {d : Nat} {h : xm_H} {l0 : Nat} {l1 : Int32} {l2 : Int32} {l3 : Int32} {l4 : Int32} {l5 : Int32} {l6 : Option Value} {h0 : xm_H} {r0 : Int32} {h1 : xm_H} {r1 : Int32} {ro : Option Value} {ho : xm_H} (q0 : ¬ (l5 < (0 : Int32))) (q1 : ¬ (l4 < (0 : Int32))) (q2 : ¬ ((640 : Int32) ≤ l4)) (q3 : xm_V X P d 122 [.ref l0, .int l4, .int l5] h (some (.int r0)) h0) (q4 : X.1[l0]? = some (.inr 3)) (q5 : ¬ (r0 = (-1 : Int32))) (q6 : ¬ ((l2 - (1 : Int32)) - l5 = l3)) (q7 : xm_V X P d 96 [.ref l0, .int l4, .int r0] h0 (some (.int r1)) h1) (K : xm_E X P d co_X3_wayMove 20 [some (.ref l0), some (.int l1), some (.int l2), some (.int l3), some (.int r1), some (.int (l5 + (-1 : Int32))), some (.int r0)] [] h1 ro ho) : xm_E X P d co_X3_wayMove 20 [some (.ref l0), some (.int l1), some (.int l2), some (.int l3), some (.int l4), some (.int l5), l6] [] h ro ho := by
  refine xm_E_s r_X3_wayMove_20 rfl rfl ?_
  refine xm_E_s r_X3_wayMove_21 rfl rfl ?_
  refine xm_E_f q0 ?_
  refine xm_E_s r_X3_wayMove_22 rfl rfl ?_
  refine xm_E_s r_X3_wayMove_23 rfl rfl ?_
  refine xm_E_f q1 ?_
  refine xm_E_s r_X3_wayMove_24 rfl rfl ?_
  refine xm_E_s r_X3_wayMove_25 rfl rfl ?_
  refine xm_E_s r_X3_wayMove_26 rfl rfl ?_
  refine xm_E_f q2 ?_
  refine xm_E_s r_X3_wayMove_27 rfl rfl ?_
  refine xm_E_s r_X3_wayMove_28 rfl rfl ?_
  refine xm_E_s r_X3_wayMove_29 rfl rfl ?_
  refine xm_E_cv [.ref l0, .int l4, .int l5] [] r_X3_wayMove_30 rfl rfl (Nat.le_of_ble_eq_true rfl) (xm_rc q4 (by decide)) rfl q3 ?_
  refine xm_E_s (ls1 := [some (.ref l0), some (.int l1), some (.int l2), some (.int l3), some (.int l4), some (.int l5), some (.int r0)]) r_X3_wayMove_31 rfl rfl ?_
  refine xm_E_s r_X3_wayMove_32 rfl rfl ?_
  refine xm_E_s r_X3_wayMove_33 rfl rfl ?_
  refine xm_E_s r_X3_wayMove_34 rfl rfl ?_
  refine xm_E_f q5 ?_
  refine xm_E_s r_X3_wayMove_35 rfl rfl ?_
  refine xm_E_s r_X3_wayMove_36 rfl rfl ?_
  refine xm_E_s r_X3_wayMove_37 rfl rfl ?_
  refine xm_E_s r_X3_wayMove_38 rfl rfl ?_
  refine xm_E_s r_X3_wayMove_39 rfl rfl ?_
  refine xm_E_s r_X3_wayMove_40 rfl rfl ?_
  refine xm_E_s r_X3_wayMove_41 rfl rfl ?_
  refine xm_E_f q6 ?_
  refine xm_E_s r_X3_wayMove_44 rfl rfl ?_
  refine xm_E_s r_X3_wayMove_45 rfl rfl ?_
  refine xm_E_s r_X3_wayMove_46 rfl rfl ?_
  refine xm_E_cv [.ref l0, .int l4, .int r0] [] r_X3_wayMove_47 rfl rfl (Nat.le_of_ble_eq_true rfl) (xm_rc q4 (by decide)) rfl q7 ?_
  refine xm_E_s (ls1 := [some (.ref l0), some (.int l1), some (.int l2), some (.int l3), some (.int r1), some (.int l5), some (.int r0)]) r_X3_wayMove_48 rfl rfl ?_
  refine xm_E_s (ls1 := [some (.ref l0), some (.int l1), some (.int l2), some (.int l3), some (.int r1), some (.int (l5 + (-1 : Int32))), some (.int r0)]) r_X3_wayMove_49 rfl rfl ?_
  refine xm_E_s r_X3_wayMove_50 rfl rfl ?_
  exact K
theorem r_X3_firstMoveIn_0 : co_X3_firstMoveIn[0]? = some ((0, .iconst 0, 0, 0, 0, 0, 0, 0, []) : xm_I) := rfl
theorem r_X3_firstMoveIn_1 : co_X3_firstMoveIn[1]? = some ((1, .istore_n 3, 0, 0, 0, 0, 0, 0, []) : xm_I) := rfl
theorem r_X3_firstMoveIn_2 : co_X3_firstMoveIn[2]? = some ((2, .iload_n 3, 0, 0, 0, 0, 0, 0, []) : xm_I) := rfl
theorem r_X3_firstMoveIn_3 : co_X3_firstMoveIn[3]? = some ((3, .bipush 10, 0, 0, 0, 0, 10, 0, []) : xm_I) := rfl
theorem r_X3_firstMoveIn_4 : co_X3_firstMoveIn[4]? = some ((5, .if_icmp .ge 47, 0, 0, 29, 0, 0, 0, []) : xm_I) := rfl
theorem r_X3_firstMoveIn_5 : co_X3_firstMoveIn[5]? = some ((8, .aload_n 0, 0, 0, 0, 0, 0, 0, []) : xm_I) := rfl
theorem r_X3_firstMoveIn_6 : co_X3_firstMoveIn[6]? = some ((9, .iload_n 1, 0, 0, 0, 0, 0, 0, []) : xm_I) := rfl
theorem r_X3_firstMoveIn_7 : co_X3_firstMoveIn[7]? = some ((10, .iload_n 3, 0, 0, 0, 0, 0, 0, []) : xm_I) := rfl
theorem r_X3_firstMoveIn_8 : co_X3_firstMoveIn[8]? = some ((11, .invokevirtual 136, 960, 96, 3, 3, 0, 0, []) : xm_I) := rfl
theorem r_X3_firstMoveIn_9 : co_X3_firstMoveIn[9]? = some ((14, .istore 4, 0, 0, 0, 0, 0, 0, []) : xm_I) := rfl
theorem r_X3_firstMoveIn_10 : co_X3_firstMoveIn[10]? = some ((16, .iload 4, 0, 0, 0, 0, 0, 0, []) : xm_I) := rfl
theorem r_X3_firstMoveIn_11 : co_X3_firstMoveIn[11]? = some ((18, .ifCond .lt 28, 0, 0, 27, 0, 0, 0, []) : xm_I) := rfl
theorem r_X3_firstMoveIn_12 : co_X3_firstMoveIn[12]? = some ((21, .iload 4, 0, 0, 0, 0, 0, 0, []) : xm_I) := rfl
theorem r_X3_firstMoveIn_13 : co_X3_firstMoveIn[13]? = some ((23, .sipush 640, 0, 0, 0, 0, 640, 0, []) : xm_I) := rfl
theorem r_X3_firstMoveIn_14 : co_X3_firstMoveIn[14]? = some ((26, .if_icmp .ge 20, 0, 0, 27, 0, 0, 0, []) : xm_I) := rfl
theorem r_X3_firstMoveIn_15 : co_X3_firstMoveIn[15]? = some ((29, .aload_n 0, 0, 0, 0, 0, 0, 0, []) : xm_I) := rfl
theorem r_X3_firstMoveIn_16 : co_X3_firstMoveIn[16]? = some ((30, .getfield 36, 348, 3, 8, 2, 0, 0, []) : xm_I) := rfl
theorem r_X3_firstMoveIn_17 : co_X3_firstMoveIn[17]? = some ((33, .iload 4, 0, 0, 0, 0, 0, 0, []) : xm_I) := rfl
theorem r_X3_firstMoveIn_18 : co_X3_firstMoveIn[18]? = some ((35, .iaload, 0, 0, 0, 0, 0, 0, []) : xm_I) := rfl
theorem r_X3_firstMoveIn_19 : co_X3_firstMoveIn[19]? = some ((36, .iload_n 2, 0, 0, 0, 0, 0, 0, []) : xm_I) := rfl
theorem r_X3_firstMoveIn_20 : co_X3_firstMoveIn[20]? = some ((37, .ishr, 0, 0, 0, 0, 0, 0, []) : xm_I) := rfl
theorem r_X3_firstMoveIn_21 : co_X3_firstMoveIn[21]? = some ((38, .iconst 1, 0, 0, 0, 0, 1, 0, []) : xm_I) := rfl
theorem r_X3_firstMoveIn_22 : co_X3_firstMoveIn[22]? = some ((39, .iand, 0, 0, 0, 0, 0, 0, []) : xm_I) := rfl
theorem r_X3_firstMoveIn_23 : co_X3_firstMoveIn[23]? = some ((40, .iconst 1, 0, 0, 0, 0, 1, 0, []) : xm_I) := rfl
theorem r_X3_firstMoveIn_24 : co_X3_firstMoveIn[24]? = some ((41, .if_icmp .ne 5, 0, 0, 27, 0, 0, 0, []) : xm_I) := rfl
theorem r_X3_firstMoveIn_25 : co_X3_firstMoveIn[25]? = some ((44, .iload_n 3, 0, 0, 0, 0, 0, 0, []) : xm_I) := rfl
theorem r_X3_firstMoveIn_26 : co_X3_firstMoveIn[26]? = some ((45, .ireturn, 0, 0, 0, 0, 0, 0, []) : xm_I) := rfl
theorem r_X3_firstMoveIn_27 : co_X3_firstMoveIn[27]? = some ((46, .iinc 3 1, 0, 0, 0, 0, 1, 0, []) : xm_I) := rfl
theorem r_X3_firstMoveIn_28 : co_X3_firstMoveIn[28]? = some ((49, .goto (-47), 0, 0, 2, 0, 0, 0, []) : xm_I) := rfl
theorem r_X3_firstMoveIn_29 : co_X3_firstMoveIn[29]? = some ((52, .iconst (-1), 0, 0, 0, 0, (-1), 0, []) : xm_I) := rfl
theorem r_X3_firstMoveIn_30 : co_X3_firstMoveIn[30]? = some ((53, .ireturn, 0, 0, 0, 0, 0, 0, []) : xm_I) := rfl
theorem p_X3_firstMoveIn_0_0 {X : xm_X} {P : List xm_M} {d : Nat} {h : xm_H} {l0 : Nat} {l1 : Int32} {l2 : Int32} {ro : Option Value} {ho : xm_H}  (K : xm_E X P d co_X3_firstMoveIn 2 [some (.ref l0), some (.int l1), some (.int l2), some (.int (0 : Int32)), none] [] h ro ho) : xm_E X P d co_X3_firstMoveIn 0 [some (.ref l0), some (.int l1), some (.int l2), none, none] [] h ro ho := by
  refine xm_E_s r_X3_firstMoveIn_0 rfl rfl ?_
  refine xm_E_s (ls1 := [some (.ref l0), some (.int l1), some (.int l2), some (.int (0 : Int32)), none]) r_X3_firstMoveIn_1 rfl rfl ?_
  exact K
theorem p_X3_firstMoveIn_2_0 {X : xm_X} {P : List xm_M} {d : Nat} {h : xm_H} {l0 : Nat} {l1 : Int32} {l2 : Int32} {l3 : Int32} {l4 : Option Value} (q0 : (10 : Int32) ≤ l3) : xm_E X P d co_X3_firstMoveIn 2 [some (.ref l0), some (.int l1), some (.int l2), some (.int l3), l4] [] h (some (.int (-1 : Int32))) h := by
  refine xm_E_s r_X3_firstMoveIn_2 rfl rfl ?_
  refine xm_E_s r_X3_firstMoveIn_3 rfl rfl ?_
  refine xm_E_s r_X3_firstMoveIn_4 rfl rfl ?_
  refine xm_E_t q0 ?_
  refine xm_E_s r_X3_firstMoveIn_29 rfl rfl ?_
  exact xm_E_iret r_X3_firstMoveIn_30 rfl rfl
theorem p_X3_firstMoveIn_2_1 {X : xm_X} {P : List xm_M} {d : Nat} {h : xm_H} {l0 : Nat} {l1 : Int32} {l2 : Int32} {l3 : Int32} {l4 : Option Value} {h0 : xm_H} {r0 : Int32} {ro : Option Value} {ho : xm_H} (q0 : ¬ ((10 : Int32) ≤ l3)) (q1 : xm_V X P d 96 [.ref l0, .int l1, .int l3] h (some (.int r0)) h0) (q2 : X.1[l0]? = some (.inr 3)) (q3 : r0 < (0 : Int32)) (K : xm_E X P d co_X3_firstMoveIn 2 [some (.ref l0), some (.int l1), some (.int l2), some (.int (l3 + (1 : Int32))), some (.int r0)] [] h0 ro ho) : xm_E X P d co_X3_firstMoveIn 2 [some (.ref l0), some (.int l1), some (.int l2), some (.int l3), l4] [] h ro ho := by
  refine xm_E_s r_X3_firstMoveIn_2 rfl rfl ?_
  refine xm_E_s r_X3_firstMoveIn_3 rfl rfl ?_
  refine xm_E_s r_X3_firstMoveIn_4 rfl rfl ?_
  refine xm_E_f q0 ?_
  refine xm_E_s r_X3_firstMoveIn_5 rfl rfl ?_
  refine xm_E_s r_X3_firstMoveIn_6 rfl rfl ?_
  refine xm_E_s r_X3_firstMoveIn_7 rfl rfl ?_
  refine xm_E_cv [.ref l0, .int l1, .int l3] [] r_X3_firstMoveIn_8 rfl rfl (Nat.le_of_ble_eq_true rfl) (xm_rc q2 (by decide)) rfl q1 ?_
  refine xm_E_s (ls1 := [some (.ref l0), some (.int l1), some (.int l2), some (.int l3), some (.int r0)]) r_X3_firstMoveIn_9 rfl rfl ?_
  refine xm_E_s r_X3_firstMoveIn_10 rfl rfl ?_
  refine xm_E_s r_X3_firstMoveIn_11 rfl rfl ?_
  refine xm_E_t q3 ?_
  refine xm_E_s (ls1 := [some (.ref l0), some (.int l1), some (.int l2), some (.int (l3 + (1 : Int32))), some (.int r0)]) r_X3_firstMoveIn_27 rfl rfl ?_
  refine xm_E_s r_X3_firstMoveIn_28 rfl rfl ?_
  exact K
theorem p_X3_firstMoveIn_2_2 {X : xm_X} {P : List xm_M} {d : Nat} {h : xm_H} {l0 : Nat} {l1 : Int32} {l2 : Int32} {l3 : Int32} {l4 : Option Value} {h0 : xm_H} {r0 : Int32} {ro : Option Value} {ho : xm_H} (q0 : ¬ ((10 : Int32) ≤ l3)) (q1 : xm_V X P d 96 [.ref l0, .int l1, .int l3] h (some (.int r0)) h0) (q2 : X.1[l0]? = some (.inr 3)) (q3 : ¬ (r0 < (0 : Int32))) (q4 : (640 : Int32) ≤ r0) (K : xm_E X P d co_X3_firstMoveIn 2 [some (.ref l0), some (.int l1), some (.int l2), some (.int (l3 + (1 : Int32))), some (.int r0)] [] h0 ro ho) : xm_E X P d co_X3_firstMoveIn 2 [some (.ref l0), some (.int l1), some (.int l2), some (.int l3), l4] [] h ro ho := by
  refine xm_E_s r_X3_firstMoveIn_2 rfl rfl ?_
  refine xm_E_s r_X3_firstMoveIn_3 rfl rfl ?_
  refine xm_E_s r_X3_firstMoveIn_4 rfl rfl ?_
  refine xm_E_f q0 ?_
  refine xm_E_s r_X3_firstMoveIn_5 rfl rfl ?_
  refine xm_E_s r_X3_firstMoveIn_6 rfl rfl ?_
  refine xm_E_s r_X3_firstMoveIn_7 rfl rfl ?_
  refine xm_E_cv [.ref l0, .int l1, .int l3] [] r_X3_firstMoveIn_8 rfl rfl (Nat.le_of_ble_eq_true rfl) (xm_rc q2 (by decide)) rfl q1 ?_
  refine xm_E_s (ls1 := [some (.ref l0), some (.int l1), some (.int l2), some (.int l3), some (.int r0)]) r_X3_firstMoveIn_9 rfl rfl ?_
  refine xm_E_s r_X3_firstMoveIn_10 rfl rfl ?_
  refine xm_E_s r_X3_firstMoveIn_11 rfl rfl ?_
  refine xm_E_f q3 ?_
  refine xm_E_s r_X3_firstMoveIn_12 rfl rfl ?_
  refine xm_E_s r_X3_firstMoveIn_13 rfl rfl ?_
  refine xm_E_s r_X3_firstMoveIn_14 rfl rfl ?_
  refine xm_E_t q4 ?_
  refine xm_E_s (ls1 := [some (.ref l0), some (.int l1), some (.int l2), some (.int (l3 + (1 : Int32))), some (.int r0)]) r_X3_firstMoveIn_27 rfl rfl ?_
  refine xm_E_s r_X3_firstMoveIn_28 rfl rfl ?_
  exact K
theorem p_X3_firstMoveIn_2_3 {X : xm_X} {P : List xm_M} {d : Nat} {h : xm_H} {l0 : Nat} {l1 : Int32} {l2 : Int32} {l3 : Int32} {l4 : Option Value} {h0 : xm_H} {r0 : Int32} {v1 : Nat} {n2 : Nat} (q0 : ¬ ((10 : Int32) ≤ l3)) (q1 : xm_V X P d 96 [.ref l0, .int l1, .int l3] h (some (.int r0)) h0) (q2 : X.1[l0]? = some (.inr 3)) (q3 : ¬ (r0 < (0 : Int32))) (q4 : ¬ ((640 : Int32) ≤ r0)) (q5 : h0.2.2 l0 8 = some v1) (q6 : X.1[v1]? = some (.inl (0, n2))) (q7 : ¬ (r0 < 0 ∨ n2 ≤ r0.toNatClampNeg)) (q8 : ((h0.1 v1 r0.toNatClampNeg) >>> (l2 &&& 31)) &&& (1 : Int32) = (1 : Int32)) : xm_E X P d co_X3_firstMoveIn 2 [some (.ref l0), some (.int l1), some (.int l2), some (.int l3), l4] [] h (some (.int l3)) h0 := by
  refine xm_E_s r_X3_firstMoveIn_2 rfl rfl ?_
  refine xm_E_s r_X3_firstMoveIn_3 rfl rfl ?_
  refine xm_E_s r_X3_firstMoveIn_4 rfl rfl ?_
  refine xm_E_f q0 ?_
  refine xm_E_s r_X3_firstMoveIn_5 rfl rfl ?_
  refine xm_E_s r_X3_firstMoveIn_6 rfl rfl ?_
  refine xm_E_s r_X3_firstMoveIn_7 rfl rfl ?_
  refine xm_E_cv [.ref l0, .int l1, .int l3] [] r_X3_firstMoveIn_8 rfl rfl (Nat.le_of_ble_eq_true rfl) (xm_rc q2 (by decide)) rfl q1 ?_
  refine xm_E_s (ls1 := [some (.ref l0), some (.int l1), some (.int l2), some (.int l3), some (.int r0)]) r_X3_firstMoveIn_9 rfl rfl ?_
  refine xm_E_s r_X3_firstMoveIn_10 rfl rfl ?_
  refine xm_E_s r_X3_firstMoveIn_11 rfl rfl ?_
  refine xm_E_f q3 ?_
  refine xm_E_s r_X3_firstMoveIn_12 rfl rfl ?_
  refine xm_E_s r_X3_firstMoveIn_13 rfl rfl ?_
  refine xm_E_s r_X3_firstMoveIn_14 rfl rfl ?_
  refine xm_E_f q4 ?_
  refine xm_E_s r_X3_firstMoveIn_15 rfl rfl ?_
  refine xm_E_s r_X3_firstMoveIn_16 rfl (xm_T_gr rfl q2 rfl rfl q5) ?_
  refine xm_E_s r_X3_firstMoveIn_17 rfl rfl ?_
  refine xm_E_s r_X3_firstMoveIn_18 rfl (xm_T_iald rfl q6 (by decide) q7) ?_
  refine xm_E_s r_X3_firstMoveIn_19 rfl rfl ?_
  refine xm_E_s r_X3_firstMoveIn_20 rfl rfl ?_
  refine xm_E_s r_X3_firstMoveIn_21 rfl rfl ?_
  refine xm_E_s r_X3_firstMoveIn_22 rfl rfl ?_
  refine xm_E_s r_X3_firstMoveIn_23 rfl rfl ?_
  refine xm_E_s r_X3_firstMoveIn_24 rfl rfl ?_
  refine xm_E_t q8 ?_
  refine xm_E_s r_X3_firstMoveIn_25 rfl rfl ?_
  exact xm_E_iret r_X3_firstMoveIn_26 rfl rfl
theorem p_X3_firstMoveIn_2_4 {X : xm_X} {P : List xm_M} {d : Nat} {h : xm_H} {l0 : Nat} {l1 : Int32} {l2 : Int32} {l3 : Int32} {l4 : Option Value} {h0 : xm_H} {r0 : Int32} {v1 : Nat} {n2 : Nat} {ro : Option Value} {ho : xm_H} (q0 : ¬ ((10 : Int32) ≤ l3)) (q1 : xm_V X P d 96 [.ref l0, .int l1, .int l3] h (some (.int r0)) h0) (q2 : X.1[l0]? = some (.inr 3)) (q3 : ¬ (r0 < (0 : Int32))) (q4 : ¬ ((640 : Int32) ≤ r0)) (q5 : h0.2.2 l0 8 = some v1) (q6 : X.1[v1]? = some (.inl (0, n2))) (q7 : ¬ (r0 < 0 ∨ n2 ≤ r0.toNatClampNeg)) (q8 : ¬ (((h0.1 v1 r0.toNatClampNeg) >>> (l2 &&& 31)) &&& (1 : Int32) = (1 : Int32))) (K : xm_E X P d co_X3_firstMoveIn 2 [some (.ref l0), some (.int l1), some (.int l2), some (.int (l3 + (1 : Int32))), some (.int r0)] [] h0 ro ho) : xm_E X P d co_X3_firstMoveIn 2 [some (.ref l0), some (.int l1), some (.int l2), some (.int l3), l4] [] h ro ho := by
  refine xm_E_s r_X3_firstMoveIn_2 rfl rfl ?_
  refine xm_E_s r_X3_firstMoveIn_3 rfl rfl ?_
  refine xm_E_s r_X3_firstMoveIn_4 rfl rfl ?_
  refine xm_E_f q0 ?_
  refine xm_E_s r_X3_firstMoveIn_5 rfl rfl ?_
  refine xm_E_s r_X3_firstMoveIn_6 rfl rfl ?_
  refine xm_E_s r_X3_firstMoveIn_7 rfl rfl ?_
  refine xm_E_cv [.ref l0, .int l1, .int l3] [] r_X3_firstMoveIn_8 rfl rfl (Nat.le_of_ble_eq_true rfl) (xm_rc q2 (by decide)) rfl q1 ?_
  refine xm_E_s (ls1 := [some (.ref l0), some (.int l1), some (.int l2), some (.int l3), some (.int r0)]) r_X3_firstMoveIn_9 rfl rfl ?_
  refine xm_E_s r_X3_firstMoveIn_10 rfl rfl ?_
  refine xm_E_s r_X3_firstMoveIn_11 rfl rfl ?_
  refine xm_E_f q3 ?_
  refine xm_E_s r_X3_firstMoveIn_12 rfl rfl ?_
  refine xm_E_s r_X3_firstMoveIn_13 rfl rfl ?_
  refine xm_E_s r_X3_firstMoveIn_14 rfl rfl ?_
  refine xm_E_f q4 ?_
  refine xm_E_s r_X3_firstMoveIn_15 rfl rfl ?_
  refine xm_E_s r_X3_firstMoveIn_16 rfl (xm_T_gr rfl q2 rfl rfl q5) ?_
  refine xm_E_s r_X3_firstMoveIn_17 rfl rfl ?_
  refine xm_E_s r_X3_firstMoveIn_18 rfl (xm_T_iald rfl q6 (by decide) q7) ?_
  refine xm_E_s r_X3_firstMoveIn_19 rfl rfl ?_
  refine xm_E_s r_X3_firstMoveIn_20 rfl rfl ?_
  refine xm_E_s r_X3_firstMoveIn_21 rfl rfl ?_
  refine xm_E_s r_X3_firstMoveIn_22 rfl rfl ?_
  refine xm_E_s r_X3_firstMoveIn_23 rfl rfl ?_
  refine xm_E_s r_X3_firstMoveIn_24 rfl rfl ?_
  refine xm_E_f q8 ?_
  refine xm_E_s (ls1 := [some (.ref l0), some (.int l1), some (.int l2), some (.int (l3 + (1 : Int32))), some (.int r0)]) r_X3_firstMoveIn_27 rfl rfl ?_
  refine xm_E_s r_X3_firstMoveIn_28 rfl rfl ?_
  exact K
end XMPA
